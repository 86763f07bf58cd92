section
/-! ===== BEGIN words of one list among another's, by their places ===== -/
theorem goodIn_r {big : List Cond} (ws : List Cond) (ps : List Nat) (hp : ws = ps.filterMap (fun i => big[i]?)) (h : ws.all goodWord = true) : GoodIn big ws := by
  intro w hw
  have h1 := List.all_eq_true.mp h w hw
  rw [hp] at hw
  obtain ⟨i, -, hi⟩ := List.mem_filterMap.mp hw
  have hm : w ∈ big := by first | exact List.mem_of_getElem? hi | exact List.getElem?_mem hi
  exact ⟨hm, good_of_word h1⟩
theorem goodIn_app {big a b : List Cond} (ha : GoodIn big a) (hb : GoodIn big b) : GoodIn big (a ++ b) := fun w h => (List.mem_append.mp h).elim (ha w) (hb w)
theorem goodIn_ca {big a b : List Cond} {c : Cond} (ha : GoodIn big (c :: a)) (hb : GoodIn big b) : GoodIn big (c :: (a ++ b)) := fun w h => (List.mem_cons.mp h).elim (fun e => ha w (List.mem_cons.mpr (Or.inl e))) (fun h => (List.mem_append.mp h).elim (fun h => ha w (List.mem_cons.mpr (Or.inr h))) (hb w))
theorem goodIn_sub {big ws : List Cond} (hm : ∀ w ∈ ws, w ∈ big) (h : ws.all goodWord = true) : GoodIn big ws := fun w hw => ⟨hm w hw, good_of_word (List.all_eq_true.mp h w hw)⟩
/-! ===== END ===== -/

/-! ===== BEGIN exceptions that leave a method, and their catching by the caller (launches without stack traces) ===== -/
section VXA
/-! The laws vx_back, vx_callV, vx_callS, vx_callSW, vx_throw0, vx_throwS follow proofs of the library, with one case more: JvmDerived/Free/Laws.lean (Back.of_free), Shelf42/LK1.lean (callV, callS), Shelf/KitTraced.lean (throwNew0V, throwNewS). -/
/-- where a method has thrown q: the class by its name, the cell, what was written, the world -/
def vx_T (XC : String → State → State → Prop) (st : State) (q : Addr) (t : State) (mc ms : Nat) (free : Addr → Prop) : Prop :=
  ∃ (E : String) (ce : Cell) (L : List Loc), XC E st t ∧ t.heap[q]? = some ce ∧ ce.vm = .none ∧ st.vm.findClass E = some ce.cls ∧ st.WarmedH t.vm ∧ st.sameButNew ({ t with vm := st.vm } : State) L mc ms ∧ ∀ z ∈ L, free z.base
def vx_Q (Qc : Array Value → State → Outcome → State → Prop) (XC : String → State → State → Prop) (mc ms : Nat) (free : Addr → Prop) : Array Value → State → Outcome → State → Prop := fun a st o t =>
  (Qc a st o t ∧ ∃ L, FrameEnd st o t L mc ms ∧ ∀ q ∈ L, free q.base) ∨ ∃ q, o = .threw q ∧ vx_T XC st q t mc ms free
/-- a callee that returns or throws -/
def vx_Met (l : Launch) (y : MethodName) (ws : List Cond) (rm : Room) (Pc : Array Value → State → Prop) (Qc : Array Value → State → Outcome → State → Prop) (XC : String → State → State → Prop) (mc ms : Nat) (free : Addr → Prop) : Prop :=
  MetFree l y (headSpec ws rm) Pc (fun _ _ _ _ _ => True) (vx_Q Qc XC mc ms free)
def vx_Post (XC : String → State → State → Prop) (mc ms : Nat) (free : Addr → Prop) : Pt → Array Value → Addr → Pt → Prop := fun A a q B =>
  ∃ (g : JFrame) (mk : MethodId) (t : State) (L : List Loc) (E : String) (ce : Cell), B.U.heap = t.heap ∧ B.U.vm = t.vm ∧ XC E (A.U.calling g mk a) t ∧ t.heap[q]? = some ce ∧ ce.vm = .none ∧ A.U.vm.findClass E = some ce.cls ∧ B.locs = A.locs ++ L ∧ (∀ z ∈ L, free z.base) ∧ B.cells = A.cells + mc ∧ B.slots = A.slots + ms
def vx_Back (l : Launch) (R : Room) (p : Program) (e : Env) (below : List Frame) (s : State) (sargs : Array Value) (y : MethodName) (len W9 : Nat)
    (Pre : Pt → Array Value → Prop) (Post : Pt → Array Value → Option Value → Pt → Prop) (PostX : Pt → Array Value → Addr → Pt → Prop) : Prop :=
  ∀ (m : MethodId) (meth : Method) (c : Code) (A : Pt) (g : JFrame) (ig : Instr) (mk : MethodId) (a : Array Value),
    Stand p l e R s m sargs below meth c A.U A.locs A.cells A.slots → g.method = m → g.locals.size = c.maxLocals → decode c.code g.pc = .ok (ig, len) →
    2 * g.monitorRoom + (g.stack.map fun v => v.category).sum ≤ W9 → A.U.methodNamed? y = some mk → Pre A a →
    (∃ (v : Option Value) (B : Pt), Stand p l e R s m sargs below meth c B.U B.locs B.cells B.slots ∧ Post A a v B ∧
      Steps p.tables e below (doInvoke e (A.U.setTop g) [] mk a).1 (B.U.setTop { g with pc := g.pc + len, stack := v.toList ++ g.stack })) ∨
    (∃ (q : Addr) (B : Pt), Stand p l e R s m sargs below meth c B.U B.locs B.cells B.slots ∧ PostX A a q B ∧
      Steps p.tables e below (doInvoke e (A.U.setTop g) [] mk a).1 ((B.U.setTop g).pushFrame (.throwing q)))
section Payer
variable {l : Launch} {R : Room} {p : Program} {e : Env} {below : List Frame} {s : State} {sargs : Array Value} {y : MethodName} {len W9 : Nat}
theorem vx_back {ws : List Cond} {rm : Room} {Pc : Array Value → State → Prop} {Qc : Array Value → State → Outcome → State → Prop} {XC : String → State → State → Prop} {mc ms : Nat} {free : Addr → Prop} {bytes : ByteArray} {maxL : Nat} {ret : Option FieldType}
    (hM : vx_Met l y ws rm Pc Qc XC mc ms free) (hblind : FrameBlind Pc) (hrc : rm.cells = mc) (hrs : rm.slots = ms)
    (hframes : rm.frames + 1 ≤ R.frames) (hlocals : W9 + (maxL + 11) + rm.locals ≤ R.locals)
    (hws : ∀ w ∈ ws, ∀ a' U, s.WarmedH U.vm → w.before a' U = true) (hcode : Cond.code y bytes maxL ret ∈ ws) (hinit : ∀ a' U, s.WarmedH U.vm → (Cond.initialized y.cls).before a' U = true) :
    vx_Back l R p e below s sargs y len W9 (PreOf R mc ms Pc) (PostOf Qc mc ms free) (vx_Post XC mc ms free) := by
  intro m meth c A g ig mk a X hg hsize hdg hW hn hp
  have h1 : (headSpec ws rm).pre.before a A.U = true := atoms_intro fun w hw => hws w hw _ _ X.warmed
  have h2 : (Cond.code y bytes maxL ret).before a A.U = true := hws _ hcode _ _ X.warmed
  have h3 : (Cond.initialized y.cls).before a A.U = true := hinit _ _ X.warmed
  have h4 : A.cells + (headSpec ws rm).room.cells ≤ R.cells := by rw [show (headSpec ws rm).room.cells = mc from hrc]; exact hp.1
  have h5 : A.slots + (headSpec ws rm).room.slots ≤ R.slots := by rw [show (headSpec ws rm).room.slots = ms from hrs]; exact hp.2.1
  have hPc : Pc a (A.U.calling g mk a) := hblind _ _ _ _ hp.2.2
  obtain ⟨U, Ls, c0, s0⟩ := A
  dsimp only [Pt.U, Pt.locs, Pt.cells, Pt.slots] at h1 h2 h3 h4 h5 X hn hPc ⊢
  obtain ⟨methY, cY, hmY, hcY, -, hlY, -, -, -, -⟩ := Cond.code_spec hn h2
  obtain ⟨kY, hkY, -⟩ := className_of_methodNamed hn
  have hinitY : kY.init = .initialized := Cond.initialized_spec (findClass_of_methodNamed hn) hkY h3
  have h : At U g.method c below := by rw [hg]; exact X.here
  have hlocals9 : W9 + (maxL + 11) + (headSpec ws rm).room.locals ≤ R.locals := hlocals
  have happ : (headSpec ws rm).appliesLoose y e.platform (U.calling g mk a) = true :=
    Spec.appliesLoose_calling (g := g) h hdg hn hkY hinitY
      (X.room_calling (g := g) (R' := (headSpec ws rm).room) hsize hmY hcY hframes (by rw [hlY]; omega) h4 h5) h1
  obtain ⟨mid, hmid⟩ := h.above
  have hfr : (U.setTop g).frames = (.java g :: mid) ++ below := by rw [State.frames_setTop' g h.top, hmid]; rfl
  obtain ⟨o, s₂, hsteps, -, hend, hq⟩ := Steps.callFree hM p X.admits X.cas X.clock (acts := []) hfr happ hPc trivial
  have hq' : vx_Q Qc XC mc ms free a (U.calling g mk a) o s₂ := hq
  rw [State.frames_setTop' g h.top] at hend
  obtain ⟨g₀, hg0⟩ := Option.isSome_iff_exists.mp h.top
  obtain ⟨r, hr⟩ := State.topJava?_eq_some.mp hg0
  have hr' : (({ U with heap := s₂.heap, slotsUsed := s₂.slotsUsed } : State).setVm s₂.vm).frames = .java g₀ :: r := hr
  rcases hq' with ⟨hqc, L, hfe, hL⟩ | ⟨q, rfl, E, ce, L, hx, hce, hcv, hcl, hW₂, hsm, hL⟩
  · obtain ⟨⟨v, rfl⟩, hW₂, e2, q2, q3, q4, q5, q6⟩ := id hfe
    have e3 : s₂ = ({ (U.calling g mk a).setFrames s₂.frames with heap := s₂.heap, slotsUsed := s₂.slotsUsed } : State).setVm s₂.vm := by
      have : s₂ = ({ s₂ with vm := (U.calling g mk a).vm } : State).setVm s₂.vm := rfl
      rw [e2] at this
      exact this
    obtain ⟨c₂, i₂, len₂, hc₂, hd₂, hf₂⟩ := hend
    have hW' : U.WarmedH s₂.vm := hW₂
    have hcc : c₂ = c := by
      have h1 : s₂.code? g.method = U.code? g.method := by
        rw [State.code?_eq, State.code?_eq, hW'.alike.method?]
      exact Option.some.inj (hc₂.symm.trans (h1.trans h.code))
    subst hcc
    have hlen : len₂ = len := by rw [hdg] at hd₂; cases hd₂; rfl
    subst hlen
    have hs₂ : s₂ = (({ U with heap := s₂.heap, slotsUsed := s₂.slotsUsed } : State).setVm s₂.vm).setTop { g with pc := g.pc + len₂, stack := v.toList ++ g.stack } := by
      refine e3.trans ?_
      rw [hf₂, State.calling_eq h.top, State.setFrames_setFrames, State.setTop_of_frames _ hr', hr]
      rfl
    have hsame : U.sameButNew ({ U with heap := s₂.heap, slotsUsed := s₂.slotsUsed } : State) L mc ms := by
      refine ⟨?_, q2, q3, q4, q5, q6⟩
      obtain ⟨t, ht, -⟩ := State.frames_cons hr
      show ({ U with heap := s₂.heap, slotsUsed := s₂.slotsUsed } : State) = { U.setFrames U.frames with heap := s₂.heap, slotsUsed := s₂.slotsUsed }
      rw [State.setFrames_self ht]
    subst hg
    refine Or.inl ⟨v, ⟨(({ U with heap := s₂.heap, slotsUsed := s₂.slotsUsed } : State).setVm s₂.vm), Ls ++ L, c0 + mc, s0 + ms⟩,
      ⟨X.admits, X.cas, X.clock, X.frames, X.room, X.hears, X.method, X.code, (X.here.setHeapUsed s₂.heap s₂.slotsUsed).setVm hW'.alike, X.tail, State.WarmedH.trans X.warmed hW', X.limits, X.bytes, X.same.trans (hsame.setVm s.vm)⟩,
      ⟨g, mk, s₂, L, rfl, rfl, hqc, rfl, hL, rfl, rfl⟩, ?_⟩
    show Steps p.tables e below _ ((({ U with heap := s₂.heap, slotsUsed := s₂.slotsUsed } : State).setVm s₂.vm).setTop { g with pc := g.pc + len₂, stack := v.toList ++ g.stack })
    rw [← hs₂]
    exact hsteps
  · obtain ⟨e2, q2, q3, q4, q5, q6⟩ := id hsm
    have e3 : s₂ = ({ (U.calling g mk a).setFrames s₂.frames with heap := s₂.heap, slotsUsed := s₂.slotsUsed } : State).setVm s₂.vm := by
      have : s₂ = ({ s₂ with vm := (U.calling g mk a).vm } : State).setVm s₂.vm := rfl
      rw [e2] at this
      exact this
    have hf₂ : s₂.frames = .throwing q :: .java g :: U.frames.tail := hend
    have hW' : U.WarmedH s₂.vm := hW₂
    have hs₂ : s₂ = ((({ U with heap := s₂.heap, slotsUsed := s₂.slotsUsed } : State).setVm s₂.vm).setTop g).pushFrame (.throwing q) := by
      refine e3.trans ?_
      rw [hf₂, State.calling_eq h.top, State.setFrames_setFrames, State.pushFrame, State.frames_setTop _ hr', State.setTop_of_frames _ hr', State.setFrames_setFrames, hr]
      rfl
    have hsame : U.sameButNew ({ U with heap := s₂.heap, slotsUsed := s₂.slotsUsed } : State) L mc ms := by
      refine ⟨?_, q2, q3, q4, q5, q6⟩
      obtain ⟨t, ht, -⟩ := State.frames_cons hr
      show ({ U with heap := s₂.heap, slotsUsed := s₂.slotsUsed } : State) = { U.setFrames U.frames with heap := s₂.heap, slotsUsed := s₂.slotsUsed }
      rw [State.setFrames_self ht]
    subst hg
    refine Or.inr ⟨q, ⟨(({ U with heap := s₂.heap, slotsUsed := s₂.slotsUsed } : State).setVm s₂.vm), Ls ++ L, c0 + mc, s0 + ms⟩,
      ⟨X.admits, X.cas, X.clock, X.frames, X.room, X.hears, X.method, X.code, (X.here.setHeapUsed s₂.heap s₂.slotsUsed).setVm hW'.alike, X.tail, State.WarmedH.trans X.warmed hW', X.limits, X.bytes, X.same.trans (hsame.setVm s.vm)⟩,
      ⟨g, mk, s₂, L, E, ce, rfl, rfl, hx, hce, hcv, hcl, rfl, hL, rfl, rfl⟩, ?_⟩
    show Steps p.tables e below _ (((({ U with heap := s₂.heap, slotsUsed := s₂.slotsUsed } : State).setVm s₂.vm).setTop g).pushFrame (.throwing q))
    rw [← hs₂]
    exact hsteps
end Payer
section Calls
variable {p : Program} {l : Launch} {e : Env} {R : Room} {s : State} {m : MethodId} {args : Array Value} {below : List Frame} {meth : Method} {c : Code} {T : State} {locs : List Loc} {cells slots : Nat}
theorem vx_callV (X : Stand p l e R s m args below meth c T locs cells slots) (hexec : p.tables.exec = Jvm.exec) {own C : String} {index : Nat} {y : MethodName} {bytes : ByteArray} {maxL : Nat} {ret : Option FieldType}
    (hown : s.vm.findClass own = some m.cls) (hlink : (Cond.methodLink own index y).before args s = true) (hinst : (Cond.instanceMethod y).before args s = true) (hsel : (Cond.selects C y y).before args s = true)
    (hcode : (Cond.code y bytes maxL ret).before args s = true) (hy : y.cls ≠ "java/lang/invoke/MethodHandle" ∧ y.cls ≠ "java/lang/invoke/VarHandle")
    {W9 : Nat} {Pre : Pt → Array Value → Prop} {Post : Pt → Array Value → Option Value → Pt → Prop} {PostX : Pt → Array Value → Addr → Pt → Prop} (hK : vx_Back l R p e below s args y 3 W9 Pre Post PostX)
    {b : Addr} {cellB : Cell} (hcell : T.heap[b]? = some cellB) (hobj : cellB.vm.isStatics = false) (hcls : s.vm.findClass C = some cellB.cls)
    {g : JFrame} (hg : g.method = m) (hsize : g.locals.size = c.maxLocals) {argsL rest : List Value} (hlen : ∀ sig, parseMethodDescriptor y.desc = some sig → argsL.length = sig.parameters.length)
    (hstack : g.stack = argsL.reverse ++ .ref b :: rest) (hW : 2 * g.monitorRoom + (rest.map fun v => v.category).sum ≤ W9) (hdg : decode c.code g.pc = .ok (.invokevirtual index, 3))
    (hpre : ∀ vm₁, s.WarmedH vm₁ → Pre ⟨T.setVm vm₁, locs, cells, slots⟩ (Value.ref b :: argsL).toArray) :
    (∃ (v : Option Value) (vm₁ : Vm) (B : Pt), s.WarmedH vm₁ ∧ Stand p l e R s m args below meth c B.U B.locs B.cells B.slots ∧ Post ⟨T.setVm vm₁, locs, cells, slots⟩ (Value.ref b :: argsL).toArray v B ∧
      ∀ target, Steps p.tables e below (B.U.setTop { g with pc := g.pc + 3, stack := v.toList ++ rest }) target → Steps p.tables e below (T.setTop g) target) ∨
    (∃ (q : Addr) (vm₁ : Vm) (B : Pt), s.WarmedH vm₁ ∧ Stand p l e R s m args below meth c B.U B.locs B.cells B.slots ∧ PostX ⟨T.setVm vm₁, locs, cells, slots⟩ (Value.ref b :: argsL).toArray q B ∧
      Steps p.tables e below (T.setTop g) ((B.U.setTop { g with stack := rest }).pushFrame (.throwing q))) := by
  obtain ⟨mk, methM, hnamed, hmethM, hstM, habM⟩ := Cond.instanceMethod_spec hinst
  obtain ⟨methM', cM, hmethM', -, -, -, -, -, -, hsigM⟩ := Cond.code_spec hnamed hcode
  cases hmethM.symm.trans hmethM'
  obtain ⟨c2, r2, m2, q1, q2, q3, q4, kP, hkP, hkPi⟩ := Cond.selects_spec hsel
  cases hcls.symm.trans q1
  cases (State.methodFound?_of_named hnamed hy).symm.trans q2
  cases hnamed.symm.trans q3
  have hselP : selectMethod e.platform s.vm cellB.cls mk = .method mk := by rw [Launch.admits_selectMethod X.admits]; exact q4
  obtain ⟨vm₁, X₁, hstep₁⟩ := X.invokevirtual hexec hown hlink hnamed hmethM hstM hkP hkPi hy (a := b) (cell := cellB) hcell
    (fun z h => by rw [h] at hobj; cases hobj) hselP hmethM habM hkP hkPi (g := g) hg (argsL := argsL) (rest := rest) (hlen _ hsigM) hstack hdg
  rcases hK m meth c ⟨T.setVm vm₁, locs, cells, slots⟩ { g with stack := rest } (.invokevirtual index) mk (Value.ref b :: argsL).toArray X₁ hg hsize hdg hW (X₁.named hnamed) (hpre vm₁ X₁.warmed) with ⟨v, B, X', hpost, hsteps⟩ | ⟨q, B, X', hpost, hsteps⟩
  · exact Or.inl ⟨v, vm₁, B, X₁.warmed, X', hpost, fun target h => hstep₁ _ fun acts => by rw [doInvoke_state]; exact hsteps.trans h⟩
  · exact Or.inr ⟨q, vm₁, B, X₁.warmed, X', hpost, hstep₁ _ fun acts => by rw [doInvoke_state]; exact hsteps⟩
theorem vx_callS (X : Stand p l e R s m args below meth c T locs cells slots) (hexec : p.tables.exec = Jvm.exec) {own : String} {index : Nat} {y : MethodName} {bytes : ByteArray} {maxL : Nat} {ret : Option FieldType}
    (hown : s.vm.findClass own = some m.cls) (hlink : (Cond.methodLink own index y).before args s = true) (hstat : (Cond.static y).before args s = true) (hinit : (Cond.initialized y.cls).before args s = true)
    (hcode : (Cond.code y bytes maxL ret).before args s = true) (hy : y.cls ≠ "java/lang/invoke/MethodHandle" ∧ y.cls ≠ "java/lang/invoke/VarHandle")
    {W9 : Nat} {Pre : Pt → Array Value → Prop} {Post : Pt → Array Value → Option Value → Pt → Prop} {PostX : Pt → Array Value → Addr → Pt → Prop} (hK : vx_Back l R p e below s args y 3 W9 Pre Post PostX)
    {g : JFrame} (hg : g.method = m) (hsize : g.locals.size = c.maxLocals) {argsL rest : List Value} (hlen : ∀ sig, parseMethodDescriptor y.desc = some sig → argsL.length = sig.parameters.length)
    (hstack : g.stack = argsL.reverse ++ rest) (hW : 2 * g.monitorRoom + (rest.map fun v => v.category).sum ≤ W9) (hdg : decode c.code g.pc = .ok (.invokestatic index, 3))
    (hpre : ∀ vm₁, s.WarmedH vm₁ → Pre ⟨T.setVm vm₁, locs, cells, slots⟩ argsL.toArray) :
    (∃ (v : Option Value) (vm₁ : Vm) (B : Pt), s.WarmedH vm₁ ∧ Stand p l e R s m args below meth c B.U B.locs B.cells B.slots ∧ Post ⟨T.setVm vm₁, locs, cells, slots⟩ argsL.toArray v B ∧
      ∀ target, Steps p.tables e below (B.U.setTop { g with pc := g.pc + 3, stack := v.toList ++ rest }) target → Steps p.tables e below (T.setTop g) target) ∨
    (∃ (q : Addr) (vm₁ : Vm) (B : Pt), s.WarmedH vm₁ ∧ Stand p l e R s m args below meth c B.U B.locs B.cells B.slots ∧ PostX ⟨T.setVm vm₁, locs, cells, slots⟩ argsL.toArray q B ∧
      Steps p.tables e below (T.setTop g) ((B.U.setTop { g with stack := rest }).pushFrame (.throwing q))) := by
  obtain ⟨mk, hnamed⟩ := Cond.code_named hcode
  obtain ⟨methM, cM, hmethM, -, -, -, -, -, -, hsigM⟩ := Cond.code_spec hnamed hcode
  have hstatic : methM.isStatic = true := Cond.static_spec hnamed hmethM hstat
  obtain ⟨kP, hkP, -⟩ := className_of_methodNamed hnamed
  have hinitP : kP.init = .initialized := Cond.initialized_spec (findClass_of_methodNamed hnamed) hkP hinit
  obtain ⟨vm₁, X₁, hstep₁⟩ := X.invokestatic hexec hown hlink hnamed hmethM hstatic hkP hinitP hy (g := g) hg (argsL := argsL) (rest := rest) (hlen _ hsigM) hstack hdg
  rcases hK m meth c ⟨T.setVm vm₁, locs, cells, slots⟩ { g with stack := rest } (.invokestatic index) mk argsL.toArray X₁ hg hsize hdg hW (X₁.named hnamed) (hpre vm₁ X₁.warmed) with ⟨v, B, X', hpost, hsteps⟩ | ⟨q, B, X', hpost, hsteps⟩
  · exact Or.inl ⟨v, vm₁, B, X₁.warmed, X', hpost, fun target h => hstep₁ _ fun acts => by rw [doInvoke_state]; exact hsteps.trans h⟩
  · exact Or.inr ⟨q, vm₁, B, X₁.warmed, X', hpost, hstep₁ _ fun acts => by rw [doInvoke_state]; exact hsteps⟩
end Calls
theorem vx_cls {s : State} {T : State} {vm₁ : Vm} {E : String} {k : ClassId} (hW : s.WarmedH vm₁) (h : (T.setVm vm₁).vm.findClass E = some k) : s.vm.findClass E = some k := by
  have h1 : vm₁.findClass E = some k := h
  rw [hW.alike.findClass] at h1
  exact h1
/-- the method's frame g, with q thrown over it -/
def vx_W (p : Program) (l : Launch) (e : Env) (R : Room) (s : State) (m : MethodId) (args : Array Value) (below : List Frame) (meth : Method) (c : Code) (H : Heap) (locs : List Loc) (cells slots : Nat) (Q : State → Prop) (g : JFrame) (q : Addr) : Prop :=
  ∀ T : State, T.heap = H → Stand p l e R s m args below meth c T locs cells slots → ∃ t, Steps p.tables e below ((T.setTop g).pushFrame (.throwing q)) t ∧ Q t
def vx_Run (p : Program) (l : Launch) (e : Env) (R : Room) (s : State) (m : MethodId) (args : Array Value) (below : List Frame) (meth : Method) (c : Code) (H : Heap) (locs : List Loc) (cells slots mc ms : Nat) (g : JFrame) (rest : List Value) (Qa : State → Outcome → State → Prop) (XC : String → State → State → Prop) (free : Addr → Prop) : Prop :=
  ∀ T : State, T.heap = H → Stand p l e R s m args below meth c T locs cells slots →
    (∃ (v : Option Value) (st₀ t T' : State) (L : List Loc), st₀.heap = H ∧ Stand p l e R s m args below meth c T' (locs ++ L) (cells + mc) (slots + ms) ∧ (∀ q ∈ L, free q.base) ∧ T'.heap = t.heap ∧ T'.vm = t.vm ∧ Qa st₀ (.returned v) t ∧
      Goes p e below T g T' { g with pc := g.pc + 3, stack := v.toList ++ rest }) ∨
    (∃ (q : Addr) (st₀ t T' : State) (L : List Loc) (E : String) (ce : Cell), st₀.heap = H ∧ Stand p l e R s m args below meth c T' (locs ++ L) (cells + mc) (slots + ms) ∧ (∀ z ∈ L, free z.base) ∧ T'.heap = t.heap ∧ T'.vm = t.vm ∧ XC E st₀ t ∧ t.heap[q]? = some ce ∧ ce.vm = .none ∧ s.vm.findClass E = some ce.cls ∧
      Steps p.tables e below (T.setTop g) ((T'.setTop { g with stack := rest }).pushFrame (.throwing q)))
def vx_X {S : Type} (px : S → Prop) (B : String → S → State → Prop) (A : Nat → Prop) : String → State → State → Prop := fun E st t => ∃ u : S, px u ∧ B E u t ∧ va_F A st t
section Runs
variable {p : Program} {l : Launch} {e : Env} {R : Room} {s : State} {m : MethodId} {args : Array Value} {below : List Frame} {meth : Method} {c : Code} {H : Heap} {locs : List Loc} {cells slots : Nat}
variable {y : MethodName} {bytes cc : ByteArray} {maxL nL mc ms n index : Nat} {ret : Option FieldType} {ws : List Cond} {rm : Room} {Pc : Array Value → State → Prop} {Qc : Array Value → State → Outcome → State → Prop} {XC : String → State → State → Prop} {free : Addr → Prop} {Ts : List Cond} {own C : String} {b : Addr} {As rest : List Value} {g : JFrame}
theorem vx_callBack (cb : CallB R s args own index y bytes maxL ret ws rm mc ms n) (hM : vx_Met l y ws rm Pc Qc XC mc ms free) (hbl : FrameBlind Pc) : vx_Back l R p e below s args y 3 8 (PreOf R mc ms Pc) (PostOf Qc mc ms free) (vx_Post XC mc ms free) := by
  obtain ⟨hrc, hrs, hfr, hlo, hws, hcw, -, hini, -⟩ := cb
  exact vx_back (bytes := bytes) (maxL := maxL) (ret := ret) hM hbl hrc hrs hfr hlo hws hcw (fun a' U hW => word_at hW (Or.inl (by first | rfl | simp [Cond.onTables, Cond.keeps, Cond.steady])) hini)
theorem vx_runV (S : CallFix p m c cc nL s args Ts own) (hM : vx_Met l y ws rm Pc Qc XC mc ms free) (cw : CallW R s args own C index y bytes maxL ret ws rm mc ms n) (hp : PreV s H C b Pc As)
    (hg : g.method = m) (hn : As.length = n) (hsize : g.locals.size = nL) (hstack : g.stack = As.reverse ++ .ref b :: rest) (hW : 2 * g.monitorRoom + (rest.map fun v => v.category).sum ≤ 8) (hdg : decode cc g.pc = .ok (.invokevirtual index, 3)) (hf : cells + mc ≤ R.cells ∧ slots + ms ≤ R.slots) :
    vx_Run p l e R s m args below meth c H locs cells slots mc ms g rest (Qc (Value.ref b :: As).toArray) XC free := by
  have hK : vx_Back l R p e below s args y 3 8 (PreOf R mc ms Pc) (PostOf Qc mc ms free) (vx_Post XC mc ms free) := vx_callBack cw.1 hM hp.1
  obtain ⟨⟨-, -, -, -, -, -, hcode, -, hy, hlen, hl⟩, hin, hse⟩ := cw
  obtain ⟨hx, hb, hml, ho, -⟩ := S
  obtain ⟨-, ⟨cellB, hcB, hoB, hclB⟩, hPc⟩ := hp
  intro T hT X
  rcases vx_callV X hx (C := C) (bytes := bytes) (maxL := maxL) (ret := ret) ho hl hin hse hcode hy hK (by rw [hT]; exact hcB) hoB hclB hg (hsize.trans hml.symm) (argsL := As) (rest := rest) (fun sig h => hn.trans (hlen sig h)) hstack hW (by rw [hb]; exact hdg)
    (fun vm₁ hW₁ => ⟨hf.1, hf.2, hPc (T.setVm vm₁) hT hW₁⟩) with ⟨v, vm₁, ⟨U', l2, c2, s2⟩, hW₁, X', ⟨g', mk, t, L, e1, e2, hq, h1, hL, h2, h3⟩, st⟩ | ⟨q, vm₁, ⟨U', l2, c2, s2⟩, hW₁, X', ⟨g', mk, t, L, E, ce, e1, e2, hq, hce, hcv, hcl, h1, hL, h2, h3⟩, st⟩
  · dsimp only [Pt.U, Pt.locs, Pt.cells, Pt.slots] at X' e1 e2 h1 h2 h3 st
    subst h1; subst h2; subst h3
    exact Or.inl ⟨v, (T.setVm vm₁).calling g' mk (Value.ref b :: As).toArray, t, U', L, hT, X', hL, e1, e2, hq, st⟩
  · dsimp only [Pt.U, Pt.locs, Pt.cells, Pt.slots] at X' e1 e2 h1 h2 h3 st hcl
    subst h1; subst h2; subst h3
    exact Or.inr ⟨q, (T.setVm vm₁).calling g' mk (Value.ref b :: As).toArray, t, U', L, E, ce, hT, X', hL, e1, e2, hq, hce, hcv, vx_cls hW₁ hcl, st⟩
theorem vx_runS (S : CallFix p m c cc nL s args Ts own) (hM : vx_Met l y ws rm Pc Qc XC mc ms free) (cw : CallB R s args own index y bytes maxL ret ws rm mc ms n ∧ (Cond.static y).before args s = true) (hp : PreS s H Pc As)
    (hg : g.method = m) (hn : As.length = n) (hsize : g.locals.size = nL) (hstack : g.stack = As.reverse ++ rest) (hW : 2 * g.monitorRoom + (rest.map fun v => v.category).sum ≤ 8) (hdg : decode cc g.pc = .ok (.invokestatic index, 3)) (hf : cells + mc ≤ R.cells ∧ slots + ms ≤ R.slots) :
    vx_Run p l e R s m args below meth c H locs cells slots mc ms g rest (Qc As.toArray) XC free := by
  have hK : vx_Back l R p e below s args y 3 8 (PreOf R mc ms Pc) (PostOf Qc mc ms free) (vx_Post XC mc ms free) := vx_callBack cw.1 hM hp.1
  obtain ⟨⟨-, -, -, -, -, -, hcode, hini, hy, hlen, hl⟩, hstt⟩ := cw
  obtain ⟨hx, hb, hml, ho, -⟩ := S
  intro T hT X
  rcases vx_callS X hx (bytes := bytes) (maxL := maxL) (ret := ret) ho hl hstt hini hcode hy hK hg (hsize.trans hml.symm) (argsL := As) (rest := rest) (fun sig h => hn.trans (hlen sig h)) hstack hW (by rw [hb]; exact hdg)
    (fun vm₁ hW₁ => ⟨hf.1, hf.2, hp.2 (T.setVm vm₁) hT hW₁⟩) with ⟨v, vm₁, ⟨U', l2, c2, s2⟩, hW₁, X', ⟨g', mk, t, L, e1, e2, hq, h1, hL, h2, h3⟩, st⟩ | ⟨q, vm₁, ⟨U', l2, c2, s2⟩, hW₁, X', ⟨g', mk, t, L, E, ce, e1, e2, hq, hce, hcv, hcl, h1, hL, h2, h3⟩, st⟩
  · dsimp only [Pt.U, Pt.locs, Pt.cells, Pt.slots] at X' e1 e2 h1 h2 h3 st
    subst h1; subst h2; subst h3
    exact Or.inl ⟨v, (T.setVm vm₁).calling g' mk As.toArray, t, U', L, hT, X', hL, e1, e2, hq, st⟩
  · dsimp only [Pt.U, Pt.locs, Pt.cells, Pt.slots] at X' e1 e2 h1 h2 h3 st hcl
    subst h1; subst h2; subst h3
    exact Or.inr ⟨q, (T.setVm vm₁).calling g' mk As.toArray, t, U', L, E, ce, hT, X', hL, e1, e2, hq, hce, hcv, vx_cls hW₁ hcl, st⟩
end Runs
section Rows
variable {p : Program} {l : Launch} {e : Env} {R : Room} {s : State} {m : MethodId} {args : Array Value} {below : List Frame} {meth : Method} {c : Code} {H : Heap} {locs : List Loc} {cells slots : Nat} {Q : State → Prop}
variable {mc ms : Nat} {free : Addr → Prop} {A0 A1 : Nat → Prop} {H0 : Heap} {a : Array Value} {pc : Nat} {ls : Array Slot} {st0 rest : List Value}
theorem vx_keep {st₀ t T' : State} {L : List Loc} (h0 : st₀.heap = H) (e1 : T'.heap = t.heap) (hS : va_S A0 H0 H locs) (hA : ∀ q, q < H.size → A1 q → A0 q) (hf : ∀ q, free q → A0 q) (hL : ∀ q ∈ L, free q.base) (hF : va_F A1 st₀ t) :
    H.size ≤ T'.heap.size ∧ (∀ q : Nat, q < H.size → ¬ A1 q → T'.heap[q]? = H[q]?) ∧ va_S A0 H0 T'.heap (locs ++ L) := by
  obtain ⟨hz, hk⟩ := hF
  rw [h0] at hz hk
  exact ⟨by rw [e1]; exact hz, fun q h1 h2 => by rw [e1]; exact hk q h1 h2,
    ⟨Nat.le_trans hS.1 (by rw [e1]; exact hz), fun q h1 h2 => by rw [e1, hk q (Nat.lt_of_lt_of_le h1 hS.1) (fun z => h2 (hA q (Nat.lt_of_lt_of_le h1 hS.1) z))]; exact hS.2.1 q h1 h2, fun q hq => by
      rcases List.mem_append.mp hq with h | h
      · exact hS.2.2 q h
      · exact hf _ (hL q h)⟩⟩
theorem vx_calli {S SX : Type} {post : Int32 → S → Prop} {px : SX → Prop} {B : S → State → Prop} {BX : String → SX → State → Prop} {AX : Nat → Prop} (hr : vx_Run p l e R s m args below meth c H locs cells slots mc ms (F0 m pc ls st0) rest (va_Qi post B A1 a) (vx_X px BX AX) free) (hS : va_S A0 H0 H locs) (hA : ∀ q, q < H.size → A1 q → A0 q) (hf : ∀ q, free q → A0 q) (hAX : ∀ q, q < H.size → AX q → A0 q)
    (kx : ∀ (E : String) (ce : Cell) (q9 : Addr) (u : SX) (t : State) (H1 : Heap) (locs1 : List Loc), t.heap = H1 → s.vm.Alike t.vm → px u → BX E u t → H.size ≤ H1.size → (∀ q : Nat, q < H.size → ¬ AX q → H1[q]? = H[q]?) → va_S A0 H0 H1 locs1 → H1[q9]? = some ce → ce.vm = .none → s.vm.findClass E = some ce.cls → vx_W p l e R s m args below meth c H1 locs1 (cells + mc) (slots + ms) Q (F0 m pc ls rest) q9)
    (kk : ∀ (r : Int32) (u : S) (t : State) (H1 : Heap) (locs1 : List Loc), t.heap = H1 → s.vm.Alike t.vm → post r u → B u t → H.size ≤ H1.size → (∀ q : Nat, q < H.size → ¬ A1 q → H1[q]? = H[q]?) → va_S A0 H0 H1 locs1 → W p l e R s m args below meth c H1 locs1 (cells + mc) (slots + ms) Q (F0 m (pc + 3) ls (.int r :: rest))) : W p l e R s m args below meth c H locs cells slots Q (F0 m pc ls st0) := by
  intro T hT X
  rcases hr T hT X with ⟨v, st₀, t, T', L, h0, X', hL, e1, e2, ⟨⟨r, u, hv, hp, hb⟩, hF⟩, st⟩ | ⟨q, st₀, t, T', L, E, ce, h0, X', hL, e1, e2, ⟨u, hp, hb, hF⟩, hce, hcv, hcl, st⟩
  · cases hv
    obtain ⟨k1, k2, k3⟩ := vx_keep h0 e1 hS hA hf hL hF
    obtain ⟨t2, a1, b1⟩ := kk r u t T'.heap (locs ++ L) e1.symm (by rw [← e2]; exact X'.warmed.alike) hp hb k1 k2 k3 T' rfl X'
    exact ⟨t2, st t2 a1, b1⟩
  · obtain ⟨k1, k2, k3⟩ := vx_keep h0 e1 hS hAX hf hL hF
    obtain ⟨t2, a1, b1⟩ := kx E ce q u t T'.heap (locs ++ L) e1.symm (by rw [← e2]; exact X'.warmed.alike) hp hb k1 k2 k3 (by rw [e1]; exact hce) hcv hcl T' rfl X'
    exact ⟨t2, st.trans a1, b1⟩
theorem vx_calll {S SX : Type} {post : Int64 → S → Prop} {px : SX → Prop} {B : S → State → Prop} {BX : String → SX → State → Prop} {AX : Nat → Prop} (hr : vx_Run p l e R s m args below meth c H locs cells slots mc ms (F0 m pc ls st0) rest (va_Ql post B A1 a) (vx_X px BX AX) free) (hS : va_S A0 H0 H locs) (hA : ∀ q, q < H.size → A1 q → A0 q) (hf : ∀ q, free q → A0 q) (hAX : ∀ q, q < H.size → AX q → A0 q)
    (kx : ∀ (E : String) (ce : Cell) (q9 : Addr) (u : SX) (t : State) (H1 : Heap) (locs1 : List Loc), t.heap = H1 → s.vm.Alike t.vm → px u → BX E u t → H.size ≤ H1.size → (∀ q : Nat, q < H.size → ¬ AX q → H1[q]? = H[q]?) → va_S A0 H0 H1 locs1 → H1[q9]? = some ce → ce.vm = .none → s.vm.findClass E = some ce.cls → vx_W p l e R s m args below meth c H1 locs1 (cells + mc) (slots + ms) Q (F0 m pc ls rest) q9)
    (kk : ∀ (r : Int64) (u : S) (t : State) (H1 : Heap) (locs1 : List Loc), t.heap = H1 → s.vm.Alike t.vm → post r u → B u t → H.size ≤ H1.size → (∀ q : Nat, q < H.size → ¬ A1 q → H1[q]? = H[q]?) → va_S A0 H0 H1 locs1 → W p l e R s m args below meth c H1 locs1 (cells + mc) (slots + ms) Q (F0 m (pc + 3) ls (.long r :: rest))) : W p l e R s m args below meth c H locs cells slots Q (F0 m pc ls st0) := by
  intro T hT X
  rcases hr T hT X with ⟨v, st₀, t, T', L, h0, X', hL, e1, e2, ⟨⟨r, u, hv, hp, hb⟩, hF⟩, st⟩ | ⟨q, st₀, t, T', L, E, ce, h0, X', hL, e1, e2, ⟨u, hp, hb, hF⟩, hce, hcv, hcl, st⟩
  · cases hv
    obtain ⟨k1, k2, k3⟩ := vx_keep h0 e1 hS hA hf hL hF
    obtain ⟨t2, a1, b1⟩ := kk r u t T'.heap (locs ++ L) e1.symm (by rw [← e2]; exact X'.warmed.alike) hp hb k1 k2 k3 T' rfl X'
    exact ⟨t2, st t2 a1, b1⟩
  · obtain ⟨k1, k2, k3⟩ := vx_keep h0 e1 hS hAX hf hL hF
    obtain ⟨t2, a1, b1⟩ := kx E ce q u t T'.heap (locs ++ L) e1.symm (by rw [← e2]; exact X'.warmed.alike) hp hb k1 k2 k3 (by rw [e1]; exact hce) hcv hcl T' rfl X'
    exact ⟨t2, st.trans a1, b1⟩
theorem vx_callf {S SX : Type} {post : UInt32 → S → Prop} {px : SX → Prop} {B : S → State → Prop} {BX : String → SX → State → Prop} {AX : Nat → Prop} (hr : vx_Run p l e R s m args below meth c H locs cells slots mc ms (F0 m pc ls st0) rest (va_Qf post B A1 a) (vx_X px BX AX) free) (hS : va_S A0 H0 H locs) (hA : ∀ q, q < H.size → A1 q → A0 q) (hf : ∀ q, free q → A0 q) (hAX : ∀ q, q < H.size → AX q → A0 q)
    (kx : ∀ (E : String) (ce : Cell) (q9 : Addr) (u : SX) (t : State) (H1 : Heap) (locs1 : List Loc), t.heap = H1 → s.vm.Alike t.vm → px u → BX E u t → H.size ≤ H1.size → (∀ q : Nat, q < H.size → ¬ AX q → H1[q]? = H[q]?) → va_S A0 H0 H1 locs1 → H1[q9]? = some ce → ce.vm = .none → s.vm.findClass E = some ce.cls → vx_W p l e R s m args below meth c H1 locs1 (cells + mc) (slots + ms) Q (F0 m pc ls rest) q9)
    (kk : ∀ (r : UInt32) (u : S) (t : State) (H1 : Heap) (locs1 : List Loc), t.heap = H1 → s.vm.Alike t.vm → post r u → B u t → H.size ≤ H1.size → (∀ q : Nat, q < H.size → ¬ A1 q → H1[q]? = H[q]?) → va_S A0 H0 H1 locs1 → W p l e R s m args below meth c H1 locs1 (cells + mc) (slots + ms) Q (F0 m (pc + 3) ls (.float r :: rest))) : W p l e R s m args below meth c H locs cells slots Q (F0 m pc ls st0) := by
  intro T hT X
  rcases hr T hT X with ⟨v, st₀, t, T', L, h0, X', hL, e1, e2, ⟨⟨r, u, hv, hp, hb⟩, hF⟩, st⟩ | ⟨q, st₀, t, T', L, E, ce, h0, X', hL, e1, e2, ⟨u, hp, hb, hF⟩, hce, hcv, hcl, st⟩
  · cases hv
    obtain ⟨k1, k2, k3⟩ := vx_keep h0 e1 hS hA hf hL hF
    obtain ⟨t2, a1, b1⟩ := kk r u t T'.heap (locs ++ L) e1.symm (by rw [← e2]; exact X'.warmed.alike) hp hb k1 k2 k3 T' rfl X'
    exact ⟨t2, st t2 a1, b1⟩
  · obtain ⟨k1, k2, k3⟩ := vx_keep h0 e1 hS hAX hf hL hF
    obtain ⟨t2, a1, b1⟩ := kx E ce q u t T'.heap (locs ++ L) e1.symm (by rw [← e2]; exact X'.warmed.alike) hp hb k1 k2 k3 (by rw [e1]; exact hce) hcv hcl T' rfl X'
    exact ⟨t2, st.trans a1, b1⟩
theorem vx_calld {S SX : Type} {post : UInt64 → S → Prop} {px : SX → Prop} {B : S → State → Prop} {BX : String → SX → State → Prop} {AX : Nat → Prop} (hr : vx_Run p l e R s m args below meth c H locs cells slots mc ms (F0 m pc ls st0) rest (va_Qd post B A1 a) (vx_X px BX AX) free) (hS : va_S A0 H0 H locs) (hA : ∀ q, q < H.size → A1 q → A0 q) (hf : ∀ q, free q → A0 q) (hAX : ∀ q, q < H.size → AX q → A0 q)
    (kx : ∀ (E : String) (ce : Cell) (q9 : Addr) (u : SX) (t : State) (H1 : Heap) (locs1 : List Loc), t.heap = H1 → s.vm.Alike t.vm → px u → BX E u t → H.size ≤ H1.size → (∀ q : Nat, q < H.size → ¬ AX q → H1[q]? = H[q]?) → va_S A0 H0 H1 locs1 → H1[q9]? = some ce → ce.vm = .none → s.vm.findClass E = some ce.cls → vx_W p l e R s m args below meth c H1 locs1 (cells + mc) (slots + ms) Q (F0 m pc ls rest) q9)
    (kk : ∀ (r : UInt64) (u : S) (t : State) (H1 : Heap) (locs1 : List Loc), t.heap = H1 → s.vm.Alike t.vm → post r u → B u t → H.size ≤ H1.size → (∀ q : Nat, q < H.size → ¬ A1 q → H1[q]? = H[q]?) → va_S A0 H0 H1 locs1 → W p l e R s m args below meth c H1 locs1 (cells + mc) (slots + ms) Q (F0 m (pc + 3) ls (.double r :: rest))) : W p l e R s m args below meth c H locs cells slots Q (F0 m pc ls st0) := by
  intro T hT X
  rcases hr T hT X with ⟨v, st₀, t, T', L, h0, X', hL, e1, e2, ⟨⟨r, u, hv, hp, hb⟩, hF⟩, st⟩ | ⟨q, st₀, t, T', L, E, ce, h0, X', hL, e1, e2, ⟨u, hp, hb, hF⟩, hce, hcv, hcl, st⟩
  · cases hv
    obtain ⟨k1, k2, k3⟩ := vx_keep h0 e1 hS hA hf hL hF
    obtain ⟨t2, a1, b1⟩ := kk r u t T'.heap (locs ++ L) e1.symm (by rw [← e2]; exact X'.warmed.alike) hp hb k1 k2 k3 T' rfl X'
    exact ⟨t2, st t2 a1, b1⟩
  · obtain ⟨k1, k2, k3⟩ := vx_keep h0 e1 hS hAX hf hL hF
    obtain ⟨t2, a1, b1⟩ := kx E ce q u t T'.heap (locs ++ L) e1.symm (by rw [← e2]; exact X'.warmed.alike) hp hb k1 k2 k3 (by rw [e1]; exact hce) hcv hcl T' rfl X'
    exact ⟨t2, st.trans a1, b1⟩
theorem vx_callv {S SX : Type} {post : S → Prop} {px : SX → Prop} {B : S → State → Prop} {BX : String → SX → State → Prop} {AX : Nat → Prop} (hr : vx_Run p l e R s m args below meth c H locs cells slots mc ms (F0 m pc ls st0) rest (va_Qv post B A1 a) (vx_X px BX AX) free) (hS : va_S A0 H0 H locs) (hA : ∀ q, q < H.size → A1 q → A0 q) (hf : ∀ q, free q → A0 q) (hAX : ∀ q, q < H.size → AX q → A0 q)
    (kx : ∀ (E : String) (ce : Cell) (q9 : Addr) (u : SX) (t : State) (H1 : Heap) (locs1 : List Loc), t.heap = H1 → s.vm.Alike t.vm → px u → BX E u t → H.size ≤ H1.size → (∀ q : Nat, q < H.size → ¬ AX q → H1[q]? = H[q]?) → va_S A0 H0 H1 locs1 → H1[q9]? = some ce → ce.vm = .none → s.vm.findClass E = some ce.cls → vx_W p l e R s m args below meth c H1 locs1 (cells + mc) (slots + ms) Q (F0 m pc ls rest) q9)
    (kk : ∀ (u : S) (t : State) (H1 : Heap) (locs1 : List Loc), t.heap = H1 → s.vm.Alike t.vm → post u → B u t → H.size ≤ H1.size → (∀ q : Nat, q < H.size → ¬ A1 q → H1[q]? = H[q]?) → va_S A0 H0 H1 locs1 → W p l e R s m args below meth c H1 locs1 (cells + mc) (slots + ms) Q (F0 m (pc + 3) ls (rest))) : W p l e R s m args below meth c H locs cells slots Q (F0 m pc ls st0) := by
  intro T hT X
  rcases hr T hT X with ⟨v, st₀, t, T', L, h0, X', hL, e1, e2, ⟨⟨u, hv, hp, hb⟩, hF⟩, st⟩ | ⟨q, st₀, t, T', L, E, ce, h0, X', hL, e1, e2, ⟨u, hp, hb, hF⟩, hce, hcv, hcl, st⟩
  · cases hv
    obtain ⟨k1, k2, k3⟩ := vx_keep h0 e1 hS hA hf hL hF
    obtain ⟨t2, a1, b1⟩ := kk u t T'.heap (locs ++ L) e1.symm (by rw [← e2]; exact X'.warmed.alike) hp hb k1 k2 k3 T' rfl X'
    exact ⟨t2, st t2 a1, b1⟩
  · obtain ⟨k1, k2, k3⟩ := vx_keep h0 e1 hS hAX hf hL hF
    obtain ⟨t2, a1, b1⟩ := kx E ce q u t T'.heap (locs ++ L) e1.symm (by rw [← e2]; exact X'.warmed.alike) hp hb k1 k2 k3 (by rw [e1]; exact hce) hcv hcl T' rfl X'
    exact ⟨t2, st.trans a1, b1⟩
/-- caught by the row x of this method's table; the rows ahead don't take it -/
theorem vx_catch {own name : String} {E : String} {ce : Cell} {q : Addr} (hown : s.vm.findClass own = some m.cls) (pre : List ExceptionTableEntry) (x : ExceptionTableEntry) (suf : List ExceptionTableEntry) (hsplit : c.exceptionTable.toList = pre ++ x :: suf)
    (hpass : ∀ z ∈ pre, covers z pc = false ∨ (z.catchType ≠ 0 ∧ ∃ nm : String, (Cond.classLink own z.catchType nm).before args s = true ∧ va_Nc E nm s)) (hx : covers x pc = true) (h0 : x.catchType ≠ 0)
    (hlink : (Cond.classLink own x.catchType name).before args s = true) (hcast : (Cond.castable E name).before args s = true) (hcell : H[q]? = some ce) (hv : ce.vm = .none) (hcl : s.vm.findClass E = some ce.cls)
    (kk : W p l e R s m args below meth c H locs cells slots Q (F0 m x.handlerPc ls [.ref q])) : vx_W p l e R s m args below meth c H locs cells slots Q (F0 m pc ls rest) q := by
  intro T hT X
  have hpl : e.platform.magicAccessors = ({} : Platform).magicAccessors := by rw [X.admits.platform]
  obtain ⟨c3, c4, hc3, hc4, hasg⟩ := Cond.castable_spec hcast
  cases Option.some.inj (hc3.symm.trans hcl)
  obtain ⟨c5, hc5, hcl5⟩ := Cond.classLink_spec hown hlink e.platform hpl
  cases Option.some.inj (hc4.symm.trans hc5)
  obtain ⟨vm', X', st⟩ := X.thenCaughtThrough q (g := F0 m pc ls rest) rfl (Steps.refl _) (by rw [hT]; exact hcell) (by rw [hv]; rfl) (by obtain ⟨k9, h9, -⟩ := Vm.findClass_spec hcl; exact ⟨k9, h9⟩) pre x suf hsplit
    (fun z hz => by
      rcases hpass z hz with h | ⟨hz0, nm, hl1, hn1⟩
      · exact Or.inl h
      · obtain ⟨c6, hc6, hcl6⟩ := Cond.classLink_spec hown hl1 e.platform hpl
        obtain ⟨a8, b8, h1, h2, h3⟩ := hn1
        cases Option.some.inj (h1.symm.trans hcl)
        cases Option.some.inj (h2.symm.trans hc6)
        exact Or.inr ⟨hz0, _, hcl6, h3⟩) hx (Or.inr ⟨h0, c4, hcl5, hasg⟩)
  obtain ⟨t, a1, b1⟩ := kk (T.setVm vm') hT X'
  exact ⟨t, st.trans a1, b1⟩
end Rows
section Ends
variable {p : Program} {l : Launch} {e : Env} {R : Room} {s : State} {m : MethodId} {args : Array Value} {below : List Frame} {meth : Method} {c : Code} {H : Heap} {locs : List Loc} {cells slots : Nat} {Q : State → Prop}
variable {mc ms : Nat} {free : Addr → Prop} {A0 A1 : Nat → Prop} {H0 : Heap} {a : Array Value} {ls : Array Slot} {st0 rest : List Value}
variable {Qc : Array Value → State → Outcome → State → Prop} {XC : String → State → State → Prop}
/-- what a body that may throw owes at its end -/
def vx_MQ (below : List Frame) (Qc : Array Value → State → Outcome → State → Prop) (XC : String → State → State → Prop) (a : Array Value) (s : State) (mc ms : Nat) (free : Addr → Prop) : State → Prop := fun t =>
  ∃ o, t.status = .running ∧ Ended t below o ∧ vx_Q Qc XC mc ms free a s o t
theorem vx_ret {g : JFrame} {mc ms : Nat} (k : W p l e R s m args below meth c H locs cells slots (MQ below Qc args s mc ms free) g) : W p l e R s m args below meth c H locs cells slots (vx_MQ below Qc XC args s mc ms free) g := by
  intro T hT X
  obtain ⟨t, a1, o, b1, b2, b3, b4⟩ := k T hT X
  exact ⟨t, a1, o, b1, b2, Or.inl ⟨b3, b4⟩⟩
/-- not caught here: it goes on to the caller -/
theorem vx_widen {g : JFrame} {q : Addr} {k n : Nat} (h1 : cells ≤ k) (h2 : slots ≤ n) (kk : vx_W p l e R s m args below meth c H locs k n Q g q) : vx_W p l e R s m args below meth c H locs cells slots Q g q := fun T hT X => kk T hT (stand_widen X h1 h2)
theorem vx_out {pc : Nat} {E : String} {ce : Cell} {q : Addr} {mc ms : Nat} (hout : ∀ x ∈ c.exceptionTable.toList, covers x pc = false) (hlocks : meth.locks = false) (hcell : H[q]? = some ce) (hv : ce.vm = .none) (hcl : s.vm.findClass E = some ce.cls)
    (hx : ∀ t : State, t.heap = H → s.vm.Alike t.vm → XC E s t) (hf : ∀ z ∈ locs, free z.base) (hc : cells ≤ mc) (hs : slots ≤ ms) :
    vx_W p l e R s m args below meth c H locs cells slots (vx_MQ below Qc XC args s mc ms free) (F0 m pc ls rest) q := by
  intro T hT X
  obtain ⟨st1, hrun, hend, hW, hsm⟩ := X.leaveThrown q (g := F0 m pc ls rest) rfl rfl rfl hout hlocks
  have hcell9 : (T.setFrames (.throwing q :: below)).heap[q]? = some ce := by
    show T.heap[q]? = some ce
    rw [hT]; exact hcell
  exact ⟨_, st1, .threw q, hrun, hend, Or.inr ⟨q, rfl, E, ce, locs, hx _ hT hW.alike, hcell9, hv, hcl, hW, hsm.mono hc hs, hf⟩⟩
theorem vx_frame {U : State} {k n : Nat} (h : s.sameButNew ({ U with vm := s.vm } : State) locs k n) : s.heap.size ≤ U.heap.size ∧ ∀ q : Nat, q < s.heap.size → (∀ z ∈ locs, z.base ≠ q) → U.heap[q]? = s.heap[q]? := by
  obtain ⟨-, h2, -, -, -, h6⟩ := h
  refine ⟨h2, fun q hq hz => ?_⟩
  obtain ⟨c9, e1, e2, e3, e4⟩ := h6 q _ (Array.getElem?_eq_getElem hq)
  have hs : c9.slots = (s.heap[q]).slots := Array.ext_getElem? fun i => e4 i fun hm => hz _ hm rfl
  have h9 : c9 = s.heap[q] := by
    rw [hs] at e2
    exact e2
  have e5 : U.heap[q]? = some c9 := e1
  rw [e5, h9, Array.getElem?_eq_getElem hq]
/-- the words of a throw but the four that speak of the heap -/
def vx_no (w : Cond) : Bool := decide (w ≠ .isRef (.static Bundle.tN "UNASSIGNED_STACK" Bundle.steD)) && decide (w ≠ .isRef (.static Bundle.tN "SUPPRESSED_SENTINEL" Bundle.listD)) && decide (w ≠ .laysStatic Bundle.tN "UNASSIGNED_STACK" Bundle.steD) && decide (w ≠ .laysStatic Bundle.tN "SUPPRESSED_SENTINEL" Bundle.listD)
def vx_at0 (own : String) (ic : Nat) (X : String) (names : List String) : List Cond := (Bundle.ownAtoms0 own ic X names).filter vx_no
def vx_atS (own : String) (ic : Nat) (X : String) (names : List String) : List Cond := (Bundle.ownAtoms own ic X names).filter vx_no
/-- a word that the tables alone decide, or a good one -/
def vx_ot (w : Cond) : Bool := w.onTables || goodWord w
theorem vx_ot_at {args a' : Array Value} {s U : State} {w : Cond} (hW : s.WarmedH U.vm) (hvm : s.vm = U.vm) (hg : vx_ot w = true) (h : w.before args s = true) : w.before a' U = true := by
  simp only [vx_ot, Bool.or_eq_true] at hg
  rcases hg with hg | hg
  · exact va_tabs hg hvm h
  · exact word_at hW (good_of_word hg) h
/-- a list's words: the good ones out of the method's own list, the others by premises of their own -/
theorem vx_hat {args : Array Value} {s : State} {L B : List Cond} (h1 : ∀ w ∈ L.filter goodWord, w.before args s = true) (h2 : ∀ w ∈ L.filter (fun w => !goodWord w), w ∈ B) (h3 : ∀ w ∈ B, w.before args s = true) : ∀ w ∈ L, w.before args s = true := by
  intro w hw
  by_cases g : goodWord w = true
  · exact h1 w (List.mem_filter.mpr ⟨hw, g⟩)
  · refine h3 w (h2 w (List.mem_filter.mpr ⟨hw, ?_⟩))
    show (!goodWord w) = true
    cases hgw : goodWord w
    · rfl
    · exact absurd hgw g
theorem vx_c {args : Array Value} {s : State} {w : Cond} {B : List Cond} (h : w.before args s = true) (t : ∀ w ∈ B, w.before args s = true) : ∀ w' ∈ w :: B, w'.before args s = true := fun w' h' => (List.mem_cons.mp h').elim (fun e => by rw [e]; exact h) (t w')
theorem vx_n {args : Array Value} {s : State} : ∀ w ∈ ([] : List Cond), w.before args s = true := fun _ h => nomatch h
theorem vx_own {args : Array Value} {s : State} {L : List Cond} (h1 : ∀ w ∈ L.filter vx_no, w.before args s = true)
    (hU : (Cond.isRef (.static Bundle.tN "UNASSIGNED_STACK" Bundle.steD)).before args s = true) (hN : (Cond.isRef (.static Bundle.tN "SUPPRESSED_SENTINEL" Bundle.listD)).before args s = true)
    (lU : (Cond.laysStatic Bundle.tN "UNASSIGNED_STACK" Bundle.steD).before args s = true) (lN : (Cond.laysStatic Bundle.tN "SUPPRESSED_SENTINEL" Bundle.listD).before args s = true) : ∀ w ∈ L, w.before args s = true := by
  intro w hw
  by_cases e1 : w = .isRef (.static Bundle.tN "UNASSIGNED_STACK" Bundle.steD)
  · rw [e1]; exact hU
  · by_cases e2 : w = .isRef (.static Bundle.tN "SUPPRESSED_SENTINEL" Bundle.listD)
    · rw [e2]; exact hN
    · by_cases e3 : w = .laysStatic Bundle.tN "UNASSIGNED_STACK" Bundle.steD
      · rw [e3]; exact lU
      · by_cases e4 : w = .laysStatic Bundle.tN "SUPPRESSED_SENTINEL" Bundle.listD
        · rw [e4]; exact lN
        · exact h1 w (List.mem_filter.mpr ⟨hw, by unfold vx_no; rw [decide_eq_true e1, decide_eq_true e2, decide_eq_true e3, decide_eq_true e4]; rfl⟩)
/-- where a static field lies, its class's statics cell in H -/
def vx_L (C n d : String) (A : Nat → Prop) (U : State) (H : Heap) : Prop := ∃ (c : ClassId) (k : Class) (i : Nat) (f : Field) (a : Nat) (cell : Cell), U.vm.findClass C = some c ∧ U.fieldFound? C n d = some (c, k, i, f) ∧ f.isStatic = true ∧ k.statics = some a ∧ H[a]? = some cell ∧ cell.vm.isStatics = true ∧ cell.cls = c ∧ f.slot < cell.slots.size ∧ k.staticTypes[f.slot]? = some f.type ∧ ¬ A a
theorem vx_L.moved {C n d : String} {A : Nat → Prop} {u U : State} {H : Heap} (hvm : u.vm.Alike U.vm) (h : vx_L C n d A u H) : vx_L C n d A U H := by
  obtain ⟨c, k, i, f, a, cell, h1, h2, h3, h4, h5, h6, h7, h8, h9, h10⟩ := h
  obtain ⟨k', hi', he⟩ := State.fieldFound?_setVm hvm h2
  exact ⟨c, k', i, f, a, cell, by rw [hvm.findClass]; exact h1, hi', h3, by rw [he]; exact h4, h5, h6, h7, h8, by rw [he]; exact h9, h10⟩
theorem vx_L.kept {C n d : String} {A : Nat → Prop} {U : State} {H H1 : Heap} (h : vx_L C n d A U H) (hq : ∀ a : Nat, a < H.size → ¬ A a → H1[a]? = H[a]?) : vx_L C n d A U H1 := by
  obtain ⟨c, k, i, f, a, cell, h1, h2, h3, h4, h5, h6, h7, h8, h9, h10⟩ := h
  exact ⟨c, k, i, f, a, cell, h1, h2, h3, h4, by rw [hq a (Array.getElem?_eq_some_iff.mp h5).1 h10]; exact h5, h6, h7, h8, h9, h10⟩
theorem vx_L.narrow {C n d : String} {A B : Nat → Prop} {U : State} {H : Heap} (h : vx_L C n d A U H) (hAB : ∀ q, B q → A q) : vx_L C n d B U H := by
  obtain ⟨c, k, i, f, a, cell, h1, h2, h3, h4, h5, h6, h7, h8, h9, h10⟩ := h
  exact ⟨c, k, i, f, a, cell, h1, h2, h3, h4, h5, h6, h7, h8, h9, fun z => h10 (hAB _ z)⟩
theorem vx_L.word {C n d : String} {A : Nat → Prop} {s : State} {args : Array Value} (h : vx_L C n d A s s.heap) : (Cond.laysStatic C n d).before args s = true := by
  obtain ⟨c, k, i, f, a, cell, h1, h2, h3, h4, h5, h6, h7, h8, h9, -⟩ := h
  show (Cond.laysStatic C n d).holds args s none s [] = true
  exact Cond.laysStatic_of h1 h2 h3 h4 h5 h6 h7 h8 h9
/-- .. and what it holds: null or some reference -/
def vx_Zq (C n d : String) (A : Nat → Prop) (U : State) (H : Heap) : Prop := va_Zq C n d A U H ∧ vx_L C n d A U H
theorem vx_Zq.moved {C n d : String} {A : Nat → Prop} {u U : State} {H : Heap} (hvm : u.vm.Alike U.vm) (h : vx_Zq C n d A u H) : vx_Zq C n d A U H := ⟨va_Zq.moved hvm h.1, vx_L.moved hvm h.2⟩
theorem vx_Zq.kept {C n d : String} {A : Nat → Prop} {U : State} {H H1 : Heap} (h : vx_Zq C n d A U H) (hq : ∀ a : Nat, a < H.size → ¬ A a → H1[a]? = H[a]?) : vx_Zq C n d A U H1 := ⟨va_Zq.kept h.1 hq, vx_L.kept h.2 hq⟩
theorem vx_Zq.narrow {C n d : String} {A B : Nat → Prop} {U : State} {H : Heap} (h : vx_Zq C n d A U H) (hAB : ∀ q, B q → A q) : vx_Zq C n d B U H := ⟨va_Zq.narrow h.1 hAB, vx_L.narrow h.2 hAB⟩
theorem vx_Zqof {args : Array Value} {s : State} {C n d : String} {A : Nat → Prop} (hl : (Cond.laysStatic C n d).before args s = true) (hini : (Cond.initialized C).before args s = true) (h : (Cond.isRef (.static C n d)).before args s = true) (hA : ∀ a : Nat, a < s.heap.size → ¬ A a) : vx_Zq C n d A s s.heap := by
  refine ⟨va_Zqof hl hini h hA, ?_⟩
  obtain ⟨c, k, i, f, a, cell, h1, h2, h3, h4, h5, h6, h7, h8, h9⟩ := Cond.laysStatic_spec hl
  exact ⟨c, k, i, f, a, cell, h1, h2, h3, h4, h5, h6, h7, h8, h9, hA a (Array.getElem?_eq_some_iff.mp h5).1⟩
theorem vx_isRef {C n d : String} {v : Value} {A : Nat → Prop} {s : State} {args : Array Value} (h : va_Z C n d v A s s.heap) (hv : v.isRef = true) : (Cond.isRef (.static C n d)).before args s = true := by
  obtain ⟨cf, kf, fi, f, a, cell, h1, h2, h3, h4, h5, h6, h7, -⟩ := h
  have he : (Term.static C n d).eval args s none [] s = some v := by
    simp [Term.eval, State.fieldNamed?, h1, h2, h4, h5, h6, h7]
  simp only [Cond.before, Cond.holds, Cond.value, he]
  cases v <;> simp_all [Value.isRef]
theorem vx_isRefq {C n d : String} {A : Nat → Prop} {s : State} {args : Array Value} (h : va_Zq C n d A s s.heap) : (Cond.isRef (.static C n d)).before args s = true := by
  rcases h with h | ⟨t, h⟩
  · exact vx_isRef h rfl
  · exact vx_isRef h rfl
/-- the same frame, seen from here: as if the method were called anew in this heap -/
theorem vx_rebase {T : State} (X : Stand p l e R s m args below meth c T locs cells slots) {R' : Room} (hf : R'.frames ≤ R.frames) (hl : R'.locals ≤ R.locals) (hc : cells + R'.cells ≤ R.cells) (hs : slots + R'.slots ≤ R.slots) :
    Stand p l e R' ((T.setVm s.vm).setFrames (.invoking m args :: below)) m args below meth c T [] 0 0 := by
  have htop : (T.setVm s.vm).topJava?.isSome := X.here.top
  have hF : ((T.setVm s.vm).setFrames (.invoking m args :: below)).frames = .invoking m args :: below := State.frames_setFrames _ (State.cur_lt_of_top htop)
  obtain ⟨g₀, hg0⟩ := Option.isSome_iff_exists.mp htop
  obtain ⟨r, hr⟩ := State.topJava?_eq_some.mp hg0
  have hl9 : e.platform.stackLimits (T.setVm s.vm).me = e.platform.stackLimits s.me := X.limits
  have hb9 : (T.setVm s.vm).me.stackBytes = s.me.stackBytes := X.bytes
  refine ⟨X.admits, X.cas, X.clock, hF, ?_, X.hears, X.method, X.code, X.here, X.tail, X.warmed, ?_, ?_, ?_⟩
  · have h := X.room
    have hU : ((T.setVm s.vm).setFrames (.invoking m args :: below)).localsInUse = s.localsInUse := by
      rw [State.localsInUse_invoking hF (meth := meth) (c := c) X.method X.code, State.localsInUse_invoking X.frames X.method X.code]
    simp only [State.hasRoom, Bool.and_eq_true, decide_eq_true_eq] at h ⊢
    obtain ⟨⟨⟨⟨h1, h2, h3, h4, h5, h6⟩, h7⟩, h8⟩, h9⟩ := h
    rw [X.frames, List.length_cons] at h2 h3
    have q1 := X.heapSize
    have q2 := X.used
    simp only [hF, hU, List.length_cons, State.stackLimits_setFrames, State.stackBytes_setFrames, hl9, hb9]
    refine ⟨⟨⟨⟨by omega, by omega, by omega, by omega, by omega, h6⟩, ?_⟩, ?_⟩, X.book⟩
    · show T.heap.size + R'.cells ≤ e.platform.maxCells
      omega
    · show T.slotsUsed + R'.slots ≤ e.platform.maxSlots
      omega
  · rw [State.stackLimits_setFrames]; rfl
  · rw [State.stackBytes_setFrames]; rfl
  · refine ⟨?_, Nat.le_refl _, Nat.le_refl _, ?_, ?_, fun a c9 h9 => ⟨c9, h9, rfl, rfl, fun _ _ => rfl⟩⟩
    · obtain ⟨t, ht, -⟩ := State.frames_cons hr
      show T.setVm s.vm = { ((T.setVm s.vm).setFrames (.invoking m args :: below)).setFrames (T.setVm s.vm).frames with heap := T.heap, slotsUsed := T.slotsUsed }
      rw [State.setFrames_setFrames, State.setFrames_self ht]
      rfl
    · show T.slotsUsed = T.slotsUsed + ((T.heap.toList.drop T.heap.size).map (·.slots.size)).sum
      rw [List.drop_eq_nil_of_le (Nat.le_of_eq Array.length_toList)]
      rfl
    · show ((T.heap.toList.drop T.heap.size).map (·.slots.size)).sum ≤ 0
      rw [List.drop_eq_nil_of_le (Nat.le_of_eq Array.length_toList)]
      exact Nat.le_refl _
/-- 'throw new E()': new; dup; invokespecial; athrow -/
theorem vx_throw0 {cc : ByteArray} {pc : Nat} (hexec : p.tables.exec = Jvm.exec) (hb : c.code = cc) (hl : l.stackTraces = false) {own cls : String} {names : List String} {ik ic mc ms : Nat} {A : Nat → Prop}
    (hown : s.vm.findClass own = some m.cls) (hcls : Bundle.fit cls = true) (hnames : ∀ n ∈ names, Bundle.fit n = true)
    (hk : (Cond.classLink own ik cls).before args s = true) (hini : (Cond.initialized cls).before args s = true) (hat : ∀ w ∈ vx_at0 own ic cls names, w.before args s = true)
    (hgood : ∀ w ∈ Cond.classLink own ik cls :: Cond.initialized cls :: vx_at0 own ic cls names, vx_ot w = true)
    (hU : vx_Zq Bundle.tN "UNASSIGNED_STACK" Bundle.steD A s s.heap) (hN : vx_Zq Bundle.tN "SUPPRESSED_SENTINEL" Bundle.listD A s s.heap) (hS : va_S A s.heap H locs) (hsize : ls.size = c.maxLocals)
    (d0 : decode cc pc = .ok (.new ik, 3)) (d3 : decode cc (pc + 3) = .ok (.dup, 1)) (d4 : decode cc (pc + 4) = .ok (.invokespecial ic, 3)) (d7 : decode cc (pc + 7) = .ok (.athrow, 1))
    (hout : ∀ x ∈ c.exceptionTable.toList, covers x (pc + 7) = false)
    (hRframes : names.length + 3 < R.frames) (hRlocals : (rest.map fun v => v.category).sum + (13 * (names.length + 1) + 42) ≤ R.locals) (hRcells : cells + 1 ≤ R.cells) (hRslots : slots + 6 ≤ R.slots) (hlocks : meth.locks = false)
    (hx : ∀ t : State, s.vm.Alike t.vm → H.size ≤ t.heap.size → (∀ q : Nat, q < H.size → t.heap[q]? = H[q]?) → XC cls s t)
    (hf : ∀ z ∈ locs, free z.base) (hc : cells + 1 ≤ mc) (hs : slots + 6 ≤ ms) :
    W p l e R s m args below meth c H locs cells slots (vx_MQ below Qc XC args s mc ms free) (F0 m pc ls rest) := by
  intro T hT X
  have htr : e.platform.stackTraces = false := (show e.platform.stackTraces = l.stackTraces by rw [X.admits.platform]).trans hl
  have Y := vx_rebase X (R' := { frames := R.frames, locals := R.locals, cells := 1, slots := 6 }) (Nat.le_refl _) (Nat.le_refl _) hRcells hRslots
  obtain ⟨s', hA⟩ : ∃ z, z = (T.setVm s.vm).setFrames (.invoking m args :: below) := ⟨_, rfl⟩
  rw [← hA] at Y
  have hvm : s'.vm = s.vm := by rw [hA]; rfl
  have hhp : s'.heap = H := by rw [hA]; exact hT
  have hW0 : s.WarmedH s'.vm := by rw [hvm]; exact State.WarmedH.refl s
  have hat' : ∀ w ∈ vx_at0 own ic cls names, w.before args s' = true := fun w hw => vx_ot_at hW0 hvm.symm (hgood w (List.mem_cons_of_mem _ (List.mem_cons_of_mem _ hw))) (hat w hw)
  have hk' : (Cond.classLink own ik cls).before args s' = true := vx_ot_at hW0 hvm.symm (hgood _ List.mem_cons_self) hk
  have hini' : (Cond.initialized cls).before args s' = true := vx_ot_at hW0 hvm.symm (hgood _ (List.mem_cons_of_mem _ List.mem_cons_self)) hini
  have hU' : vx_Zq Bundle.tN "UNASSIGNED_STACK" Bundle.steD A s' s'.heap := by rw [hhp]; exact vx_Zq.moved hW0.alike (hU.kept hS.2.1)
  have hN' : vx_Zq Bundle.tN "SUPPRESSED_SENTINEL" Bundle.listD A s' s'.heap := by rw [hhp]; exact vx_Zq.moved hW0.alike (hN.kept hS.2.1)
  have h : ∀ w ∈ Bundle.ownAtoms0 own ic cls names, w.before args s' = true := vx_own hat' (vx_isRefq hU'.1) (vx_isRefq hN'.1) hU'.2.word hN'.2.word
  have hown' : s'.vm.findClass own = some m.cls := by rw [hvm]; exact hown
  have hins : (Cond.instantiable cls 6).before args s' = true := h _ (by simp [Bundle.ownAtoms0])
  obtain ⟨vm₁, cX, kX, hfX, hkX, -, -, X₁, st1⟩ := Y.newCold hexec (own := own) (C := cls) (index := ik) (n := 6) hown' hk' hins hini'
    (g := F0 m pc ls rest) rfl (by rw [hb]; exact d0) (Nat.le_refl _) (Nat.le_refl _)
  generalize hT1 : (T.setVm vm₁).pushCell { cls := cX, slots := kX.instanceTypes.map defaultValue, vm := .none } = T1 at X₁ st1
  have hcat : (Value.ref T.heap.size).category = 1 := rfl
  have hcellA : T1.heap[T.heap.size]? = some (freshCell cX kX) := by rw [← hT1]; exact State.heap_pushCell_size _ _
  have d3' : decode c.code (pc + 3) = .ok (.dup, 1) := by rw [hb]; exact d3
  obtain ⟨U, hsteps, hrun, hend, hW, hsame, ce, hce, hO⟩ := X₁.ctorThrow0 hexec htr (own := own) (cls := cls) (names := names) (ic := ic) hown' hcls hnames h (fun x hx => nomatch hx) hfX hkX hcellA (by rw [hhp, hT]; exact Nat.le_refl _)
    (g := { method := m, pc := pc + 4, locals := ls, stack := .ref T.heap.size :: .ref T.heap.size :: rest, locked := none }) rfl hsize rfl rfl (rest := rest) rfl
    (by rw [hb]; exact d4) (by rw [hb]; exact d7) hout hRframes (by simp only [List.map_cons, List.sum_cons, hcat]; omega) hlocks
  obtain ⟨f1, f2⟩ := vx_frame hsame
  rw [hhp] at f1 f2
  have hWs : s.WarmedH U.vm := State.WarmedH.trans hW0 hW
  have hcl : s.vm.findClass cls = some ce.cls := by
    have h9 := hO.cls
    rw [hvm] at h9
    exact h9
  have hall : s.sameButNew ({ U with vm := s.vm } : State) locs mc ms := by
    subst hA
    obtain ⟨e1, e2⟩ := hsame
    rw [State.setFrames_setFrames] at e1
    have h2 : (T.setVm s.vm).sameButNew ({ U with vm := s.vm } : State) [] (0 + 1) (0 + 6) := ⟨e1, e2⟩
    have h3 := X.same.trans h2
    rw [List.append_nil] at h3
    exact h3.mono hc hs
  refine ⟨U, ?_, .threw T.heap.size, hrun, hend, Or.inr ⟨T.heap.size, rfl, cls, ce, locs, hx U hWs.alike f1 (fun q hq => f2 q hq (fun z hz => nomatch hz)), hce, hO.vm, hcl, hWs, hall, hf⟩⟩
  refine st1 _ ?_
  show Steps p.tables e below (T1.setTop { method := m, pc := pc + 3, locals := ls, stack := .ref T.heap.size :: rest, locked := none }) _
  jvm_step X₁.here [X₁.here.top, hexec, d3', Value.category]
  exact hsteps
/-- 'throw new E("text")': new; dup; ldc; invokespecial; athrow -/
theorem vx_throwS {cc : ByteArray} {pc : Nat} (hexec : p.tables.exec = Jvm.exec) (hb : c.code = cc) (hl : l.stackTraces = false) {own cls text : String} {names : List String} {ik is ic mc ms sa : Nat} {A : Nat → Prop}
    (hown : s.vm.findClass own = some m.cls) (hcls : Bundle.fit cls = true) (hnames : ∀ n ∈ names, Bundle.fit n = true)
    (hk : (Cond.classLink own ik cls).before args s = true) (hini : (Cond.initialized cls).before args s = true) (hstr : vk_R own is text sa s) (hat : ∀ w ∈ vx_atS own ic cls names, w.before args s = true)
    (hgood : ∀ w ∈ Cond.classLink own ik cls :: Cond.initialized cls :: vx_atS own ic cls names, vx_ot w = true)
    (hU : vx_Zq Bundle.tN "UNASSIGNED_STACK" Bundle.steD A s s.heap) (hN : vx_Zq Bundle.tN "SUPPRESSED_SENTINEL" Bundle.listD A s s.heap) (hS : va_S A s.heap H locs) (hsize : ls.size = c.maxLocals)
    (d0 : decode cc pc = .ok (.new ik, 3)) (d3 : decode cc (pc + 3) = .ok (.dup, 1)) (d4 : decode cc (pc + 4) = .ok (.ldc is, 2)) (d6 : decode cc (pc + 6) = .ok (.invokespecial ic, 3)) (d9 : decode cc (pc + 9) = .ok (.athrow, 1))
    (hout : ∀ x ∈ c.exceptionTable.toList, covers x (pc + 9) = false)
    (hRframes : names.length + 3 < R.frames) (hRlocals : (rest.map fun v => v.category).sum + (13 * (names.length + 1) + 43) ≤ R.locals) (hRcells : cells + 1 ≤ R.cells) (hRslots : slots + 6 ≤ R.slots) (hlocks : meth.locks = false)
    (hx : ∀ t : State, s.vm.Alike t.vm → H.size ≤ t.heap.size → (∀ q : Nat, q < H.size → t.heap[q]? = H[q]?) → XC cls s t)
    (hf : ∀ z ∈ locs, free z.base) (hc : cells + 1 ≤ mc) (hs : slots + 6 ≤ ms) :
    W p l e R s m args below meth c H locs cells slots (vx_MQ below Qc XC args s mc ms free) (F0 m pc ls rest) := by
  intro T hT X
  have htr : e.platform.stackTraces = false := (show e.platform.stackTraces = l.stackTraces by rw [X.admits.platform]).trans hl
  have Y := vx_rebase X (R' := { frames := R.frames, locals := R.locals, cells := 1, slots := 6 }) (Nat.le_refl _) (Nat.le_refl _) hRcells hRslots
  obtain ⟨s', hA⟩ : ∃ z, z = (T.setVm s.vm).setFrames (.invoking m args :: below) := ⟨_, rfl⟩
  rw [← hA] at Y
  have hvm : s'.vm = s.vm := by rw [hA]; rfl
  have hhp : s'.heap = H := by rw [hA]; exact hT
  have hW0 : s.WarmedH s'.vm := by rw [hvm]; exact State.WarmedH.refl s
  have hat' : ∀ w ∈ vx_atS own ic cls names, w.before args s' = true := fun w hw => vx_ot_at hW0 hvm.symm (hgood w (List.mem_cons_of_mem _ (List.mem_cons_of_mem _ hw))) (hat w hw)
  have hk' : (Cond.classLink own ik cls).before args s' = true := vx_ot_at hW0 hvm.symm (hgood _ List.mem_cons_self) hk
  have hini' : (Cond.initialized cls).before args s' = true := vx_ot_at hW0 hvm.symm (hgood _ (List.mem_cons_of_mem _ List.mem_cons_self)) hini
  have hU' : vx_Zq Bundle.tN "UNASSIGNED_STACK" Bundle.steD A s' s'.heap := by rw [hhp]; exact vx_Zq.moved hW0.alike (hU.kept hS.2.1)
  have hN' : vx_Zq Bundle.tN "SUPPRESSED_SENTINEL" Bundle.listD A s' s'.heap := by rw [hhp]; exact vx_Zq.moved hW0.alike (hN.kept hS.2.1)
  have h : ∀ w ∈ Bundle.ownAtoms own ic cls names, w.before args s' = true := vx_own hat' (vx_isRefq hU'.1) (vx_isRefq hN'.1) hU'.2.word hN'.2.word
  have hown' : s'.vm.findClass own = some m.cls := by rw [hvm]; exact hown
  have hins : (Cond.instantiable cls 6).before args s' = true := h _ (by simp [Bundle.ownAtoms])
  obtain ⟨vm₁, cX, kX, hfX, hkX, -, -, X₁, st1⟩ := Y.newCold hexec (own := own) (C := cls) (index := ik) (n := 6) hown' hk' hins hini'
    (g := F0 m pc ls rest) rfl (by rw [hb]; exact d0) (Nat.le_refl _) (Nat.le_refl _)
  generalize hT1 : (T.setVm vm₁).pushCell { cls := cX, slots := kX.instanceTypes.map defaultValue, vm := .none } = T1 at X₁ st1
  have hcat : (Value.ref T.heap.size).category = 1 := rfl
  have hcellA : T1.heap[T.heap.size]? = some (freshCell cX kX) := by rw [← hT1]; exact State.heap_pushCell_size _ _
  have d3' : decode c.code (pc + 3) = .ok (.dup, 1) := by rw [hb]; exact d3
  have d4' : decode c.code (pc + 4) = .ok (.ldc is, 2) := by rw [hb]; exact d4
  have hstr' : vk_R own is text sa s' := vk_R.warm hW0 hstr
  obtain ⟨U, hsteps, hrun, hend, hW, hsame, ce, hce, hO⟩ := X₁.ctorThrowS hexec htr (own := own) (cls := cls) (names := names) (ic := ic) hown' hcls hnames h (fun x hx => nomatch hx) hfX hkX hcellA (by rw [hhp, hT]; exact Nat.le_refl _) (msg := .ref sa) rfl
    (g := { method := m, pc := pc + 6, locals := ls, stack := .ref sa :: .ref T.heap.size :: .ref T.heap.size :: rest, locked := none }) rfl hsize rfl rfl (rest := rest) rfl
    (by rw [hb]; exact d6) (by rw [hb]; exact d9) hout hRframes (by simp only [List.map_cons, List.sum_cons, hcat]; omega) hlocks
  obtain ⟨f1, f2⟩ := vx_frame hsame
  rw [hhp] at f1 f2
  have hWs : s.WarmedH U.vm := State.WarmedH.trans hW0 hW
  have hcl : s.vm.findClass cls = some ce.cls := by
    have h9 := hO.cls
    rw [hvm] at h9
    exact h9
  have hall : s.sameButNew ({ U with vm := s.vm } : State) locs mc ms := by
    subst hA
    obtain ⟨e1, e2⟩ := hsame
    rw [State.setFrames_setFrames] at e1
    have h2 : (T.setVm s.vm).sameButNew ({ U with vm := s.vm } : State) [] (0 + 1) (0 + 6) := ⟨e1, e2⟩
    have h3 := X.same.trans h2
    rw [List.append_nil] at h3
    exact h3.mono hc hs
  refine ⟨U, ?_, .threw T.heap.size, hrun, hend, Or.inr ⟨T.heap.size, rfl, cls, ce, locs, hx U hWs.alike f1 (fun q hq => f2 q hq (fun z hz => nomatch hz)), hce, hO.vm, hcl, hWs, hall, hf⟩⟩
  refine st1 _ ?_
  show Steps p.tables e below (T1.setTop { method := m, pc := pc + 3, locals := ls, stack := .ref T.heap.size :: rest, locked := none }) _
  jvm_step X₁.here [X₁.here.top, hexec, d3', Value.category]
  exact X₁.ldcString hexec (own := own) (text := text) (index := is) (a := sa) hown' hstr'.1 hstr'.2
    (g := { method := m, pc := pc + 4, locals := ls, stack := .ref T.heap.size :: .ref T.heap.size :: rest, locked := none }) rfl d4' _ hsteps
/-- 'throw new E("text")', the text by a wide index -/
theorem vx_throwSW {cc : ByteArray} {pc : Nat} (hexec : p.tables.exec = Jvm.exec) (hb : c.code = cc) (hl : l.stackTraces = false) {own cls text : String} {names : List String} {ik is ic mc ms sa : Nat} {A : Nat → Prop}
    (hown : s.vm.findClass own = some m.cls) (hcls : Bundle.fit cls = true) (hnames : ∀ n ∈ names, Bundle.fit n = true)
    (hk : (Cond.classLink own ik cls).before args s = true) (hini : (Cond.initialized cls).before args s = true) (hstr : vk_R own is text sa s) (hat : ∀ w ∈ vx_atS own ic cls names, w.before args s = true)
    (hgood : ∀ w ∈ Cond.classLink own ik cls :: Cond.initialized cls :: vx_atS own ic cls names, vx_ot w = true)
    (hU : vx_Zq Bundle.tN "UNASSIGNED_STACK" Bundle.steD A s s.heap) (hN : vx_Zq Bundle.tN "SUPPRESSED_SENTINEL" Bundle.listD A s s.heap) (hS : va_S A s.heap H locs) (hsize : ls.size = c.maxLocals)
    (d0 : decode cc pc = .ok (.new ik, 3)) (d3 : decode cc (pc + 3) = .ok (.dup, 1)) (d4 : decode cc (pc + 4) = .ok (.ldc_w is, 3)) (d7 : decode cc (pc + 7) = .ok (.invokespecial ic, 3)) (d10 : decode cc (pc + 10) = .ok (.athrow, 1))
    (hout : ∀ x ∈ c.exceptionTable.toList, covers x (pc + 10) = false)
    (hRframes : names.length + 3 < R.frames) (hRlocals : (rest.map fun v => v.category).sum + (13 * (names.length + 1) + 43) ≤ R.locals) (hRcells : cells + 1 ≤ R.cells) (hRslots : slots + 6 ≤ R.slots) (hlocks : meth.locks = false)
    (hx : ∀ t : State, s.vm.Alike t.vm → H.size ≤ t.heap.size → (∀ q : Nat, q < H.size → t.heap[q]? = H[q]?) → XC cls s t)
    (hf : ∀ z ∈ locs, free z.base) (hc : cells + 1 ≤ mc) (hs : slots + 6 ≤ ms) :
    W p l e R s m args below meth c H locs cells slots (vx_MQ below Qc XC args s mc ms free) (F0 m pc ls rest) := by
  intro T hT X
  have htr : e.platform.stackTraces = false := (show e.platform.stackTraces = l.stackTraces by rw [X.admits.platform]).trans hl
  have Y := vx_rebase X (R' := { frames := R.frames, locals := R.locals, cells := 1, slots := 6 }) (Nat.le_refl _) (Nat.le_refl _) hRcells hRslots
  obtain ⟨s', hA⟩ : ∃ z, z = (T.setVm s.vm).setFrames (.invoking m args :: below) := ⟨_, rfl⟩
  rw [← hA] at Y
  have hvm : s'.vm = s.vm := by rw [hA]; rfl
  have hhp : s'.heap = H := by rw [hA]; exact hT
  have hW0 : s.WarmedH s'.vm := by rw [hvm]; exact State.WarmedH.refl s
  have hat' : ∀ w ∈ vx_atS own ic cls names, w.before args s' = true := fun w hw => vx_ot_at hW0 hvm.symm (hgood w (List.mem_cons_of_mem _ (List.mem_cons_of_mem _ hw))) (hat w hw)
  have hk' : (Cond.classLink own ik cls).before args s' = true := vx_ot_at hW0 hvm.symm (hgood _ List.mem_cons_self) hk
  have hini' : (Cond.initialized cls).before args s' = true := vx_ot_at hW0 hvm.symm (hgood _ (List.mem_cons_of_mem _ List.mem_cons_self)) hini
  have hU' : vx_Zq Bundle.tN "UNASSIGNED_STACK" Bundle.steD A s' s'.heap := by rw [hhp]; exact vx_Zq.moved hW0.alike (hU.kept hS.2.1)
  have hN' : vx_Zq Bundle.tN "SUPPRESSED_SENTINEL" Bundle.listD A s' s'.heap := by rw [hhp]; exact vx_Zq.moved hW0.alike (hN.kept hS.2.1)
  have h : ∀ w ∈ Bundle.ownAtoms own ic cls names, w.before args s' = true := vx_own hat' (vx_isRefq hU'.1) (vx_isRefq hN'.1) hU'.2.word hN'.2.word
  have hown' : s'.vm.findClass own = some m.cls := by rw [hvm]; exact hown
  have hins : (Cond.instantiable cls 6).before args s' = true := h _ (by simp [Bundle.ownAtoms])
  obtain ⟨vm₁, cX, kX, hfX, hkX, -, -, X₁, st1⟩ := Y.newCold hexec (own := own) (C := cls) (index := ik) (n := 6) hown' hk' hins hini'
    (g := F0 m pc ls rest) rfl (by rw [hb]; exact d0) (Nat.le_refl _) (Nat.le_refl _)
  generalize hT1 : (T.setVm vm₁).pushCell { cls := cX, slots := kX.instanceTypes.map defaultValue, vm := .none } = T1 at X₁ st1
  have hcat : (Value.ref T.heap.size).category = 1 := rfl
  have hcellA : T1.heap[T.heap.size]? = some (freshCell cX kX) := by rw [← hT1]; exact State.heap_pushCell_size _ _
  have d3' : decode c.code (pc + 3) = .ok (.dup, 1) := by rw [hb]; exact d3
  have d4' : decode c.code (pc + 4) = .ok (.ldc_w is, 3) := by rw [hb]; exact d4
  have hstr' : vk_R own is text sa s' := vk_R.warm hW0 hstr
  obtain ⟨U, hsteps, hrun, hend, hW, hsame, ce, hce, hO⟩ := X₁.ctorThrowS hexec htr (own := own) (cls := cls) (names := names) (ic := ic) hown' hcls hnames h (fun x hx => nomatch hx) hfX hkX hcellA (by rw [hhp, hT]; exact Nat.le_refl _) (msg := .ref sa) rfl
    (g := { method := m, pc := pc + 7, locals := ls, stack := .ref sa :: .ref T.heap.size :: .ref T.heap.size :: rest, locked := none }) rfl hsize rfl rfl (rest := rest) rfl
    (by rw [hb]; exact d7) (by rw [hb]; exact d10) hout hRframes (by simp only [List.map_cons, List.sum_cons, hcat]; omega) hlocks
  obtain ⟨f1, f2⟩ := vx_frame hsame
  rw [hhp] at f1 f2
  have hWs : s.WarmedH U.vm := State.WarmedH.trans hW0 hW
  have hcl : s.vm.findClass cls = some ce.cls := by
    have h9 := hO.cls
    rw [hvm] at h9
    exact h9
  have hall : s.sameButNew ({ U with vm := s.vm } : State) locs mc ms := by
    subst hA
    obtain ⟨e1, e2⟩ := hsame
    rw [State.setFrames_setFrames] at e1
    have h2 : (T.setVm s.vm).sameButNew ({ U with vm := s.vm } : State) [] (0 + 1) (0 + 6) := ⟨e1, e2⟩
    have h3 := X.same.trans h2
    rw [List.append_nil] at h3
    exact h3.mono hc hs
  refine ⟨U, ?_, .threw T.heap.size, hrun, hend, Or.inr ⟨T.heap.size, rfl, cls, ce, locs, hx U hWs.alike f1 (fun q hq => f2 q hq (fun z hz => nomatch hz)), hce, hO.vm, hcl, hWs, hall, hf⟩⟩
  refine st1 _ ?_
  show Steps p.tables e below (T1.setTop { method := m, pc := pc + 3, locals := ls, stack := .ref T.heap.size :: rest, locked := none }) _
  jvm_step X₁.here [X₁.here.top, hexec, d3', Value.category]
  exact X₁.ldcStringW hexec (own := own) (text := text) (index := is) (a := sa) hown' hstr'.1 hstr'.2
    (g := { method := m, pc := pc + 4, locals := ls, stack := .ref T.heap.size :: .ref T.heap.size :: rest, locked := none }) rfl d4' _ hsteps
end Ends
section Bodies
variable {l : Launch}
theorem vx_ofW {y : MethodName} {ws ws' : List Cond} {rm : Room} {Pc : Array Value → State → Prop} {Qc : Array Value → State → Outcome → State → Prop} {XC : String → State → State → Prop} {mc ms : Nat} {free : Addr → Prop} {cc : ByteArray} {maxL : Nat} {ret : Option FieldType}
    (hy : plainName y.cls = true) (hw : ws = Cond.code y cc maxL ret :: ws')
    (body : ∀ p e s m args below meth c s₁, BodyLoose p l y (headSpec ws rm) cc maxL ret e s m args below meth c s₁ → c.maxLocals = maxL → (∀ x ∈ c.exceptionTable.toList, False) → Pc args s →
      W p l e (headSpec ws rm).room s m args below meth c s.heap [] 0 0 (vx_MQ below Qc XC args s mc ms free) (entryFrame m args maxL)) : vx_Met l y ws rm Pc Qc XC mc ms free := by
  refine MetFree.of_bodyS (code := cc) (maxLocals := maxL) (ret := ret) hy ?_ ?_
  · intro args s m h hn
    obtain ⟨meth, c, h1, h2, h3, h4, h5, h6, -, -⟩ := Cond.code_spec hn (atoms_spec (ws := ws) h _ (by rw [hw]; exact List.mem_cons_self))
    exact ⟨meth, c, h1, h2, h3, h4, h5, h6⟩
  · intro p e s m args below meth c s₁ B hml hP _
    have hh0 : s₁.heap = s.heap := by rw [B.state]; rfl
    have ht : ∀ x ∈ c.exceptionTable.toList, False := by
      obtain ⟨meth9, c9, h1, h2, -, -, -, -, h7, -⟩ := Cond.code_spec B.named (atoms_spec (ws := ws) B.pre _ (by rw [hw]; exact List.mem_cons_self))
      cases Option.some.inj (h1.symm.trans B.method)
      cases Option.some.inj (h2.symm.trans (Stand.of_body B).code)
      intro x hx
      rw [Array.isEmpty_iff.mp h7] at hx
      cases hx
    obtain ⟨t, a1, o, b1, b2, b3⟩ := body p e s m args below meth c s₁ B hml ht hP s₁ hh0 (Stand.of_body B)
    exact ⟨t, o, a1, b1, b2, b3⟩
/-- the table of a body with handlers -/
theorem vx_table {p : Program} {x y : MethodName} {S : Spec} {cc bytes : ByteArray} {maxL maxL' : Nat} {ret ret' : Option FieldType} {e : Env} {s s₁ : State} {m : MethodId} {args : Array Value} {below : List Frame} {meth : Method} {c : Code} {hh : List (Nat × Nat × Nat × Nat)}
    (B : BodyLoose p l y S cc maxL ret e s m args below meth c s₁) (h : (Cond.codeWith y bytes maxL' ret' hh).before args s = true) : c.exceptionTable.toList = tableOf hh := by
  obtain ⟨m9, meth9, c9, hn9, h1, h2, -, -, h6, -⟩ := Cond.codeWith_spec h
  cases Option.some.inj (hn9.symm.trans B.named)
  cases Option.some.inj (h1.symm.trans B.method)
  cases Option.some.inj (h2.symm.trans (Stand.of_body B).code)
  rw [← h6, table_eq]
end Bodies
end VXA
/-! ===== END ===== -/
/-! ===== BEGIN a static call of a method with an exception table ===== -/
section VXS
variable {p : Program} {l : Launch} {e : Env} {R : Room} {s : State} {m : MethodId} {args : Array Value} {below : List Frame} {meth : Method} {c : Code} {T : State} {H : Heap} {locs : List Loc} {cells slots : Nat}
abbrev vx_CSW (R : Room) (s : State) (args : Array Value) (own : String) (index : Nat) (y : MethodName) (bytes : ByteArray) (maxL : Nat) (ret : Option FieldType) (hh : List (Nat × Nat × Nat × Nat)) (ws : List Cond) (rm : Room) (mc ms n : Nat) : Prop :=
  (rm.cells = mc ∧ rm.slots = ms ∧ rm.frames + 1 ≤ R.frames ∧ 8 + (maxL + 11) + rm.locals ≤ R.locals ∧ (∀ w ∈ ws, ∀ (a' : Array Value) (U : State), s.WarmedH U.vm → w.before a' U = true) ∧ Cond.codeWith y bytes maxL ret hh ∈ ws) ∧
  (Cond.codeWith y bytes maxL ret hh).before args s = true ∧ (Cond.initialized y.cls).before args s = true ∧ (y.cls ≠ "java/lang/invoke/MethodHandle" ∧ y.cls ≠ "java/lang/invoke/VarHandle") ∧
  (∀ sig, parseMethodDescriptor y.desc = some sig → n = sig.parameters.length) ∧ (Cond.methodLink own index y).before args s = true ∧ (Cond.static y).before args s = true
theorem vx_cwSW {own : String} {index maxL mc ms : Nat} {y : MethodName} {bytes : ByteArray} {ret : Option FieldType} {hh : List (Nat × Nat × Nat × Nat)} {Ts ws ws' : List Cond} {rm : Room} (n : Nat) (ht : ∀ w ∈ Ts, w.before args s = true) (hT : GoodIn Ts (va_wsS own index y ws)) (hw : ws = Cond.codeWith y bytes maxL ret hh :: ws') (hrc : rm.cells = mc) (hrs : rm.slots = ms)
    (hd : y.cls ≠ "java/lang/invoke/MethodHandle" ∧ y.cls ≠ "java/lang/invoke/VarHandle" ∧ (parseMethodDescriptor y.desc).map (fun d => d.parameters.length) = some n) (hR : rm.frames + 1 ≤ R.frames ∧ 8 + (maxL + 11) + rm.locals ≤ R.locals) :
    vx_CSW R s args own index y bytes maxL ret hh ws rm mc ms n := by
  have ok : ∀ w ∈ va_wsS own index y ws, w.before args s = true := fun w h => ht w (hT w h).1
  have hG : GoodIn Ts ws := fun w h => hT w (by unfold va_wsS; exact List.mem_append_right _ h)
  have hc : Cond.codeWith y bytes maxL ret hh ∈ ws := by rw [hw]; exact List.mem_cons_self
  refine ⟨⟨hrc, hrs, hR.1, hR.2, pay_in ht hG, hc⟩, ht _ (hG _ hc).1, ok _ (by simp [va_wsS]), ⟨hd.1, hd.2.1⟩, fun sig h => ?_, ok _ (by simp [va_wsS]), ok _ (by simp [va_wsS])⟩
  have h2 := hd.2.2
  rw [h] at h2
  exact (Option.some.inj h2).symm
theorem vx_callSW (X : Stand p l e R s m args below meth c T locs cells slots) (hexec : p.tables.exec = Jvm.exec) {own : String} {index : Nat} {y : MethodName} {bytes : ByteArray} {maxL : Nat} {ret : Option FieldType} {hh : List (Nat × Nat × Nat × Nat)}
    (hown : s.vm.findClass own = some m.cls) (hlink : (Cond.methodLink own index y).before args s = true) (hstat : (Cond.static y).before args s = true) (hinit : (Cond.initialized y.cls).before args s = true)
    (hcode : (Cond.codeWith y bytes maxL ret hh).before args s = true) (hy : y.cls ≠ "java/lang/invoke/MethodHandle" ∧ y.cls ≠ "java/lang/invoke/VarHandle")
    {W9 : Nat} {Pre : Pt → Array Value → Prop} {Post : Pt → Array Value → Option Value → Pt → Prop} (hK : Back l R p e below s args y 3 W9 Pre Post)
    {g : JFrame} (hg : g.method = m) (hsize : g.locals.size = c.maxLocals) {argsL rest : List Value} (hlen : ∀ sig, parseMethodDescriptor y.desc = some sig → argsL.length = sig.parameters.length)
    (hstack : g.stack = argsL.reverse ++ rest) (hW : 2 * g.monitorRoom + (rest.map fun v => v.category).sum ≤ W9) (hdg : decode c.code g.pc = .ok (.invokestatic index, 3))
    (hpre : ∀ vm₁, s.WarmedH vm₁ → Pre ⟨T.setVm vm₁, locs, cells, slots⟩ argsL.toArray) :
    ∃ (v : Option Value) (vm₁ : Vm) (B : Pt), s.WarmedH vm₁ ∧ Stand p l e R s m args below meth c B.U B.locs B.cells B.slots ∧ Post ⟨T.setVm vm₁, locs, cells, slots⟩ argsL.toArray v B ∧
      ∀ target, Steps p.tables e below (B.U.setTop { g with pc := g.pc + 3, stack := v.toList ++ rest }) target → Steps p.tables e below (T.setTop g) target := by
  obtain ⟨mk, methM, cM, hnamed, hmethM, -, -, -, -, -, -, hsigM⟩ := Cond.codeWith_spec hcode
  have hstatic : methM.isStatic = true := Cond.static_spec hnamed hmethM hstat
  obtain ⟨kP, hkP, -⟩ := className_of_methodNamed hnamed
  have hinitP : kP.init = .initialized := Cond.initialized_spec (findClass_of_methodNamed hnamed) hkP hinit
  obtain ⟨vm₁, X₁, hstep₁⟩ := X.invokestatic hexec hown hlink hnamed hmethM hstatic hkP hinitP hy (g := g) hg (argsL := argsL) (rest := rest) (hlen _ hsigM) hstack hdg
  obtain ⟨v, B, X', hpost, hsteps⟩ := hK m meth c ⟨T.setVm vm₁, locs, cells, slots⟩ { g with stack := rest } (.invokestatic index) mk argsL.toArray X₁ hg hsize hdg hW (X₁.named hnamed) (hpre vm₁ X₁.warmed)
  exact ⟨v, vm₁, B, X₁.warmed, X', hpost, fun target h => hstep₁ _ fun acts => by rw [doInvoke_state]; exact hsteps.trans h⟩
theorem vx_runSW {y : MethodName} {bytes cc : ByteArray} {maxL nL mc ms n index : Nat} {ret : Option FieldType} {hh : List (Nat × Nat × Nat × Nat)} {ws : List Cond} {rm : Room} {Pc : Array Value → State → Prop} {Qc : Array Value → State → Outcome → State → Prop} {free : Addr → Prop} {Ts : List Cond} {own : String} {As rest : List Value} {g : JFrame}
    (S : CallFix p m c cc nL s args Ts own) (hM : Met l y ws rm Pc Qc mc ms free) (cw : vx_CSW R s args own index y bytes maxL ret hh ws rm mc ms n) (hp : PreS s H Pc As)
    (hg : g.method = m) (hn : As.length = n) (hsize : g.locals.size = nL) (hstack : g.stack = As.reverse ++ rest) (hW : 2 * g.monitorRoom + (rest.map fun v => v.category).sum ≤ 8) (hdg : decode cc g.pc = .ok (.invokestatic index, 3)) (hf : cells + mc ≤ R.cells ∧ slots + ms ≤ R.slots) :
    va_Run p l e R s m args below meth c H locs cells slots mc ms g rest (Qc As.toArray) (free) := by
  obtain ⟨⟨hrc, hrs, hfr, hlo, hws, hcw⟩, hcode, hini, hy, hlen, hl, hstt⟩ := cw
  have hK : Back l R p e below s args y 3 8 (PreOf R mc ms Pc) (PostOf Qc mc ms free) := va_backW (hh := hh) (bytes := bytes) (maxL := maxL) (ret := ret) hM hp.1 hrc hrs hfr hlo hws hcw (fun a' U hW => word_at hW (Or.inl (by first | rfl | simp [Cond.onTables, Cond.keeps, Cond.steady])) hini)
  obtain ⟨hx, hb, hml, ho, -⟩ := S
  intro T hT X
  obtain ⟨v, vm₁, ⟨U', l2, c2, s2⟩, hW₁, X', ⟨g', mk, t, L, e1, e2, hq, h1, hL, h2, h3⟩, st⟩ := vx_callSW X hx (hh := hh) (bytes := bytes) (maxL := maxL) (ret := ret) ho hl hstt hini hcode hy hK hg (hsize.trans hml.symm) (argsL := As) (rest := rest) (fun sig h => hn.trans (hlen sig h)) hstack hW (by rw [hb]; exact hdg)
    (fun vm₁ hW₁ => ⟨hf.1, hf.2, hp.2 (T.setVm vm₁) hT hW₁⟩)
  dsimp only [Pt.U, Pt.locs, Pt.cells, Pt.slots] at X' e1 e2 h1 h2 h3 st
  subst h1; subst h2; subst h3
  exact ⟨v, (T.setVm vm₁).calling g' mk As.toArray, t, U', L, hT, X', hL, e1, e2, hq, st⟩
/-- not caught here, past rows that name other classes: it goes on to the caller -/
theorem vx_outP {p : Program} {l : Launch} {e : Env} {R : Room} {s : State} {m : MethodId} {args : Array Value} {below : List Frame} {meth : Method} {c : Code} {H : Heap} {locs : List Loc} {cells slots : Nat} {free : Addr → Prop} {ls : Array Slot} {rest : List Value} {Qc : Array Value → State → Outcome → State → Prop} {XC : String → State → State → Prop}
    {pc : Nat} {own E : String} {ce : Cell} {q : Addr} {mc ms : Nat} (hown : s.vm.findClass own = some m.cls) (hlocks : meth.locks = false)
    (hpass : ∀ z ∈ c.exceptionTable.toList, covers z pc = false ∨ (z.catchType ≠ 0 ∧ ∃ nm : String, (Cond.classLink own z.catchType nm).before args s = true ∧ va_Nc E nm s)) (hcell : H[q]? = some ce) (hv : ce.vm = .none) (hcl : s.vm.findClass E = some ce.cls)
    (hx : ∀ t : State, t.heap = H → s.vm.Alike t.vm → XC E s t) (hf : ∀ z ∈ locs, free z.base) (hc : cells ≤ mc) (hs : slots ≤ ms) :
    vx_W p l e R s m args below meth c H locs cells slots (vx_MQ below Qc XC args s mc ms free) (F0 m pc ls rest) q := by
  intro T hT X
  have hpl : e.platform.magicAccessors = ({} : Platform).magicAccessors := by rw [X.admits.platform]
  obtain ⟨vm', hW', X', st⟩ := X.outThrough hlocks q (g := F0 m pc ls rest) rfl rfl rfl (cell := ce) (by rw [hT]; exact hcell) (by rw [hv]; rfl)
    (by obtain ⟨k9, h9, -⟩ := Vm.findClass_spec hcl; exact ⟨k9, h9⟩) (fun z hz => by
      rcases hpass z hz with h | ⟨hz0, nm, hl1, hn1⟩
      · exact Or.inl h
      · obtain ⟨c6, hc6, hcl6⟩ := Cond.classLink_spec hown hl1 e.platform hpl
        obtain ⟨a8, b8, h1, h2, h3⟩ := hn1
        cases Option.some.inj (h1.symm.trans hcl)
        cases Option.some.inj (h2.symm.trans hc6)
        exact Or.inr ⟨hz0, _, hcl6, h3⟩)
  obtain ⟨g₀, hfr⟩ := X'.frames_eq
  have hcell9 : ((T.setVm vm').setFrames (.throwing q :: below)).heap[q]? = some ce := by
    show T.heap[q]? = some ce
    rw [hT]; exact hcell
  have hend : Ended ((T.setVm vm').setFrames (.throwing q :: below)) below (.threw q) := State.frames_setFrames _ (State.cur_lt_of_frames hfr)
  refine ⟨(T.setVm vm').setFrames (.throwing q :: below), ?_, .threw q, X'.here.running, hend, Or.inr ⟨q, rfl, E, ce, locs, hx _ hT (X'.ends _).1.alike, hcell9, hv, hcl, (X'.ends _).1, (X'.ends _).2.mono hc hs, hf⟩⟩
  rw [X.pushThrowing_eq]
  exact st
/-- a thing of a world lies in the heap -/
theorem vx_lt {D : va_G} {cl : List vw_C} {ws : va_W} {H1 : Heap} (h : va_P D cl ws H1) {k : Nat} {q : Nat × va_E} (hk : ws[k]? = some q) : q.1 < H1.size := (h k q hk).lt
end VXS
/-! ===== END ===== -/
/-! ===== BEGIN methods with a table of their own: called by a name, returning or throwing ===== -/
section VXH
/-! vx_backW, vx_callVX, vx_callSX, vx_callVW, vx_runVW, vx_runVX, vx_runSX, vx_ofWH follow the same proofs as their sisters above (Free/Laws.lean, Shelf42/LK1.lean); vx_outP calls Shelf42/NT130.lean (outThrough). -/
section
variable {l : Launch} {R : Room} {p : Program} {e : Env} {below : List Frame} {s : State} {sargs : Array Value} {y : MethodName} {len W9 : Nat}
theorem vx_backW {ws : List Cond} {rm : Room} {Pc : Array Value → State → Prop} {Qc : Array Value → State → Outcome → State → Prop} {XC : String → State → State → Prop} {mc ms : Nat} {free : Addr → Prop} {bytes : ByteArray} {maxL : Nat} {ret : Option FieldType} {hh : List (Nat × Nat × Nat × Nat)}
    (hM : vx_Met l y ws rm Pc Qc XC mc ms free) (hblind : FrameBlind Pc) (hrc : rm.cells = mc) (hrs : rm.slots = ms)
    (hframes : rm.frames + 1 ≤ R.frames) (hlocals : W9 + (maxL + 11) + rm.locals ≤ R.locals)
    (hws : ∀ w ∈ ws, ∀ a' U, s.WarmedH U.vm → w.before a' U = true) (hcode : Cond.codeWith y bytes maxL ret hh ∈ ws) (hinit : ∀ a' U, s.WarmedH U.vm → (Cond.initialized y.cls).before a' U = true) :
    vx_Back l R p e below s sargs y len W9 (PreOf R mc ms Pc) (PostOf Qc mc ms free) (vx_Post XC mc ms free) := by
  intro m meth c A g ig mk a X hg hsize hdg hW hn hp
  have h1 : (headSpec ws rm).pre.before a A.U = true := atoms_intro fun w hw => hws w hw _ _ X.warmed
  have h2 : (Cond.codeWith y bytes maxL ret hh).before a A.U = true := hws _ hcode _ _ X.warmed
  have h3 : (Cond.initialized y.cls).before a A.U = true := hinit _ _ X.warmed
  have h4 : A.cells + (headSpec ws rm).room.cells ≤ R.cells := by rw [show (headSpec ws rm).room.cells = mc from hrc]; exact hp.1
  have h5 : A.slots + (headSpec ws rm).room.slots ≤ R.slots := by rw [show (headSpec ws rm).room.slots = ms from hrs]; exact hp.2.1
  have hPc : Pc a (A.U.calling g mk a) := hblind _ _ _ _ hp.2.2
  obtain ⟨U, Ls, c0, s0⟩ := A
  dsimp only [Pt.U, Pt.locs, Pt.cells, Pt.slots] at h1 h2 h3 h4 h5 X hn hPc ⊢
  obtain ⟨m9, methY, cY, hn9, hmY, hcY, -, hlY, -⟩ := Cond.codeWith_spec h2
  cases Option.some.inj (hn9.symm.trans hn)
  obtain ⟨kY, hkY, -⟩ := className_of_methodNamed hn
  have hinitY : kY.init = .initialized := Cond.initialized_spec (findClass_of_methodNamed hn) hkY h3
  have h : At U g.method c below := by rw [hg]; exact X.here
  have hlocals9 : W9 + (maxL + 11) + (headSpec ws rm).room.locals ≤ R.locals := hlocals
  have happ : (headSpec ws rm).appliesLoose y e.platform (U.calling g mk a) = true :=
    Spec.appliesLoose_calling (g := g) h hdg hn hkY hinitY
      (X.room_calling (g := g) (R' := (headSpec ws rm).room) hsize hmY hcY hframes (by rw [hlY]; omega) h4 h5) h1
  obtain ⟨mid, hmid⟩ := h.above
  have hfr : (U.setTop g).frames = (.java g :: mid) ++ below := by rw [State.frames_setTop' g h.top, hmid]; rfl
  obtain ⟨o, s₂, hsteps, -, hend, hq⟩ := Steps.callFree hM p X.admits X.cas X.clock (acts := []) hfr happ hPc trivial
  have hq' : vx_Q Qc XC mc ms free a (U.calling g mk a) o s₂ := hq
  rw [State.frames_setTop' g h.top] at hend
  obtain ⟨g₀, hg0⟩ := Option.isSome_iff_exists.mp h.top
  obtain ⟨r, hr⟩ := State.topJava?_eq_some.mp hg0
  have hr' : (({ U with heap := s₂.heap, slotsUsed := s₂.slotsUsed } : State).setVm s₂.vm).frames = .java g₀ :: r := hr
  rcases hq' with ⟨hqc, L, hfe, hL⟩ | ⟨q, rfl, E, ce, L, hx, hce, hcv, hcl, hW₂, hsm, hL⟩
  · obtain ⟨⟨v, rfl⟩, hW₂, e2, q2, q3, q4, q5, q6⟩ := id hfe
    have e3 : s₂ = ({ (U.calling g mk a).setFrames s₂.frames with heap := s₂.heap, slotsUsed := s₂.slotsUsed } : State).setVm s₂.vm := by
      have : s₂ = ({ s₂ with vm := (U.calling g mk a).vm } : State).setVm s₂.vm := rfl
      rw [e2] at this
      exact this
    obtain ⟨c₂, i₂, len₂, hc₂, hd₂, hf₂⟩ := hend
    have hW' : U.WarmedH s₂.vm := hW₂
    have hcc : c₂ = c := by
      have h1 : s₂.code? g.method = U.code? g.method := by
        rw [State.code?_eq, State.code?_eq, hW'.alike.method?]
      exact Option.some.inj (hc₂.symm.trans (h1.trans h.code))
    subst hcc
    have hlen : len₂ = len := by rw [hdg] at hd₂; cases hd₂; rfl
    subst hlen
    have hs₂ : s₂ = (({ U with heap := s₂.heap, slotsUsed := s₂.slotsUsed } : State).setVm s₂.vm).setTop { g with pc := g.pc + len₂, stack := v.toList ++ g.stack } := by
      refine e3.trans ?_
      rw [hf₂, State.calling_eq h.top, State.setFrames_setFrames, State.setTop_of_frames _ hr', hr]
      rfl
    have hsame : U.sameButNew ({ U with heap := s₂.heap, slotsUsed := s₂.slotsUsed } : State) L mc ms := by
      refine ⟨?_, q2, q3, q4, q5, q6⟩
      obtain ⟨t, ht, -⟩ := State.frames_cons hr
      show ({ U with heap := s₂.heap, slotsUsed := s₂.slotsUsed } : State) = { U.setFrames U.frames with heap := s₂.heap, slotsUsed := s₂.slotsUsed }
      rw [State.setFrames_self ht]
    subst hg
    refine Or.inl ⟨v, ⟨(({ U with heap := s₂.heap, slotsUsed := s₂.slotsUsed } : State).setVm s₂.vm), Ls ++ L, c0 + mc, s0 + ms⟩,
      ⟨X.admits, X.cas, X.clock, X.frames, X.room, X.hears, X.method, X.code, (X.here.setHeapUsed s₂.heap s₂.slotsUsed).setVm hW'.alike, X.tail, State.WarmedH.trans X.warmed hW', X.limits, X.bytes, X.same.trans (hsame.setVm s.vm)⟩,
      ⟨g, mk, s₂, L, rfl, rfl, hqc, rfl, hL, rfl, rfl⟩, ?_⟩
    show Steps p.tables e below _ ((({ U with heap := s₂.heap, slotsUsed := s₂.slotsUsed } : State).setVm s₂.vm).setTop { g with pc := g.pc + len₂, stack := v.toList ++ g.stack })
    rw [← hs₂]
    exact hsteps
  · obtain ⟨e2, q2, q3, q4, q5, q6⟩ := id hsm
    have e3 : s₂ = ({ (U.calling g mk a).setFrames s₂.frames with heap := s₂.heap, slotsUsed := s₂.slotsUsed } : State).setVm s₂.vm := by
      have : s₂ = ({ s₂ with vm := (U.calling g mk a).vm } : State).setVm s₂.vm := rfl
      rw [e2] at this
      exact this
    have hf₂ : s₂.frames = .throwing q :: .java g :: U.frames.tail := hend
    have hW' : U.WarmedH s₂.vm := hW₂
    have hs₂ : s₂ = ((({ U with heap := s₂.heap, slotsUsed := s₂.slotsUsed } : State).setVm s₂.vm).setTop g).pushFrame (.throwing q) := by
      refine e3.trans ?_
      rw [hf₂, State.calling_eq h.top, State.setFrames_setFrames, State.pushFrame, State.frames_setTop _ hr', State.setTop_of_frames _ hr', State.setFrames_setFrames, hr]
      rfl
    have hsame : U.sameButNew ({ U with heap := s₂.heap, slotsUsed := s₂.slotsUsed } : State) L mc ms := by
      refine ⟨?_, q2, q3, q4, q5, q6⟩
      obtain ⟨t, ht, -⟩ := State.frames_cons hr
      show ({ U with heap := s₂.heap, slotsUsed := s₂.slotsUsed } : State) = { U.setFrames U.frames with heap := s₂.heap, slotsUsed := s₂.slotsUsed }
      rw [State.setFrames_self ht]
    subst hg
    refine Or.inr ⟨q, ⟨(({ U with heap := s₂.heap, slotsUsed := s₂.slotsUsed } : State).setVm s₂.vm), Ls ++ L, c0 + mc, s0 + ms⟩,
      ⟨X.admits, X.cas, X.clock, X.frames, X.room, X.hears, X.method, X.code, (X.here.setHeapUsed s₂.heap s₂.slotsUsed).setVm hW'.alike, X.tail, State.WarmedH.trans X.warmed hW', X.limits, X.bytes, X.same.trans (hsame.setVm s.vm)⟩,
      ⟨g, mk, s₂, L, E, ce, rfl, rfl, hx, hce, hcv, hcl, rfl, hL, rfl, rfl⟩, ?_⟩
    show Steps p.tables e below _ (((({ U with heap := s₂.heap, slotsUsed := s₂.slotsUsed } : State).setVm s₂.vm).setTop g).pushFrame (.throwing q))
    rw [← hs₂]
    exact hsteps
end
variable {p : Program} {l : Launch} {e : Env} {R : Room} {s : State} {m : MethodId} {args : Array Value} {below : List Frame} {meth : Method} {c : Code} {T : State} {H : Heap} {locs : List Loc} {cells slots : Nat}
theorem vx_callVX (X : Stand p l e R s m args below meth c T locs cells slots) (hexec : p.tables.exec = Jvm.exec) {own C : String} {index : Nat} {y : MethodName} {bytes : ByteArray} {maxL : Nat} {ret : Option FieldType} {hh : List (Nat × Nat × Nat × Nat)}
    (hown : s.vm.findClass own = some m.cls) (hlink : (Cond.methodLink own index y).before args s = true) (hinst : (Cond.instanceMethod y).before args s = true) (hsel : (Cond.selects C y y).before args s = true)
    (hcode : (Cond.codeWith y bytes maxL ret hh).before args s = true) (hy : y.cls ≠ "java/lang/invoke/MethodHandle" ∧ y.cls ≠ "java/lang/invoke/VarHandle")
    {W9 : Nat} {Pre : Pt → Array Value → Prop} {Post : Pt → Array Value → Option Value → Pt → Prop} {PostX : Pt → Array Value → Addr → Pt → Prop} (hK : vx_Back l R p e below s args y 3 W9 Pre Post PostX)
    {b : Addr} {cellB : Cell} (hcell : T.heap[b]? = some cellB) (hobj : cellB.vm.isStatics = false) (hcls : s.vm.findClass C = some cellB.cls)
    {g : JFrame} (hg : g.method = m) (hsize : g.locals.size = c.maxLocals) {argsL rest : List Value} (hlen : ∀ sig, parseMethodDescriptor y.desc = some sig → argsL.length = sig.parameters.length)
    (hstack : g.stack = argsL.reverse ++ .ref b :: rest) (hW : 2 * g.monitorRoom + (rest.map fun v => v.category).sum ≤ W9) (hdg : decode c.code g.pc = .ok (.invokevirtual index, 3))
    (hpre : ∀ vm₁, s.WarmedH vm₁ → Pre ⟨T.setVm vm₁, locs, cells, slots⟩ (Value.ref b :: argsL).toArray) :
    (∃ (v : Option Value) (vm₁ : Vm) (B : Pt), s.WarmedH vm₁ ∧ Stand p l e R s m args below meth c B.U B.locs B.cells B.slots ∧ Post ⟨T.setVm vm₁, locs, cells, slots⟩ (Value.ref b :: argsL).toArray v B ∧
      ∀ target, Steps p.tables e below (B.U.setTop { g with pc := g.pc + 3, stack := v.toList ++ rest }) target → Steps p.tables e below (T.setTop g) target) ∨
    (∃ (q : Addr) (vm₁ : Vm) (B : Pt), s.WarmedH vm₁ ∧ Stand p l e R s m args below meth c B.U B.locs B.cells B.slots ∧ PostX ⟨T.setVm vm₁, locs, cells, slots⟩ (Value.ref b :: argsL).toArray q B ∧
      Steps p.tables e below (T.setTop g) ((B.U.setTop { g with stack := rest }).pushFrame (.throwing q))) := by
  obtain ⟨mk, methM, hnamed, hmethM, hstM, habM⟩ := Cond.instanceMethod_spec hinst
  obtain ⟨m8, methM', cM, hn8, hmethM', -, -, -, -, -, -, hsigM⟩ := Cond.codeWith_spec hcode
  cases Option.some.inj (hn8.symm.trans hnamed)
  cases hmethM.symm.trans hmethM'
  obtain ⟨c2, r2, m2, q1, q2, q3, q4, kP, hkP, hkPi⟩ := Cond.selects_spec hsel
  cases hcls.symm.trans q1
  cases (State.methodFound?_of_named hnamed hy).symm.trans q2
  cases hnamed.symm.trans q3
  have hselP : selectMethod e.platform s.vm cellB.cls mk = .method mk := by rw [Launch.admits_selectMethod X.admits]; exact q4
  obtain ⟨vm₁, X₁, hstep₁⟩ := X.invokevirtual hexec hown hlink hnamed hmethM hstM hkP hkPi hy (a := b) (cell := cellB) hcell
    (fun z h => by rw [h] at hobj; cases hobj) hselP hmethM habM hkP hkPi (g := g) hg (argsL := argsL) (rest := rest) (hlen _ hsigM) hstack hdg
  rcases hK m meth c ⟨T.setVm vm₁, locs, cells, slots⟩ { g with stack := rest } (.invokevirtual index) mk (Value.ref b :: argsL).toArray X₁ hg hsize hdg hW (X₁.named hnamed) (hpre vm₁ X₁.warmed) with ⟨v, B, X', hpost, hsteps⟩ | ⟨q, B, X', hpost, hsteps⟩
  · exact Or.inl ⟨v, vm₁, B, X₁.warmed, X', hpost, fun target h => hstep₁ _ fun acts => by rw [doInvoke_state]; exact hsteps.trans h⟩
  · exact Or.inr ⟨q, vm₁, B, X₁.warmed, X', hpost, hstep₁ _ fun acts => by rw [doInvoke_state]; exact hsteps⟩
theorem vx_callSX (X : Stand p l e R s m args below meth c T locs cells slots) (hexec : p.tables.exec = Jvm.exec) {own : String} {index : Nat} {y : MethodName} {bytes : ByteArray} {maxL : Nat} {ret : Option FieldType} {hh : List (Nat × Nat × Nat × Nat)}
    (hown : s.vm.findClass own = some m.cls) (hlink : (Cond.methodLink own index y).before args s = true) (hstat : (Cond.static y).before args s = true) (hinit : (Cond.initialized y.cls).before args s = true)
    (hcode : (Cond.codeWith y bytes maxL ret hh).before args s = true) (hy : y.cls ≠ "java/lang/invoke/MethodHandle" ∧ y.cls ≠ "java/lang/invoke/VarHandle")
    {W9 : Nat} {Pre : Pt → Array Value → Prop} {Post : Pt → Array Value → Option Value → Pt → Prop} {PostX : Pt → Array Value → Addr → Pt → Prop} (hK : vx_Back l R p e below s args y 3 W9 Pre Post PostX)
    {g : JFrame} (hg : g.method = m) (hsize : g.locals.size = c.maxLocals) {argsL rest : List Value} (hlen : ∀ sig, parseMethodDescriptor y.desc = some sig → argsL.length = sig.parameters.length)
    (hstack : g.stack = argsL.reverse ++ rest) (hW : 2 * g.monitorRoom + (rest.map fun v => v.category).sum ≤ W9) (hdg : decode c.code g.pc = .ok (.invokestatic index, 3))
    (hpre : ∀ vm₁, s.WarmedH vm₁ → Pre ⟨T.setVm vm₁, locs, cells, slots⟩ argsL.toArray) :
    (∃ (v : Option Value) (vm₁ : Vm) (B : Pt), s.WarmedH vm₁ ∧ Stand p l e R s m args below meth c B.U B.locs B.cells B.slots ∧ Post ⟨T.setVm vm₁, locs, cells, slots⟩ argsL.toArray v B ∧
      ∀ target, Steps p.tables e below (B.U.setTop { g with pc := g.pc + 3, stack := v.toList ++ rest }) target → Steps p.tables e below (T.setTop g) target) ∨
    (∃ (q : Addr) (vm₁ : Vm) (B : Pt), s.WarmedH vm₁ ∧ Stand p l e R s m args below meth c B.U B.locs B.cells B.slots ∧ PostX ⟨T.setVm vm₁, locs, cells, slots⟩ argsL.toArray q B ∧
      Steps p.tables e below (T.setTop g) ((B.U.setTop { g with stack := rest }).pushFrame (.throwing q))) := by
  obtain ⟨mk, methM, cM, hnamed, hmethM, -, -, -, -, -, -, hsigM⟩ := Cond.codeWith_spec hcode
  have hstatic : methM.isStatic = true := Cond.static_spec hnamed hmethM hstat
  obtain ⟨kP, hkP, -⟩ := className_of_methodNamed hnamed
  have hinitP : kP.init = .initialized := Cond.initialized_spec (findClass_of_methodNamed hnamed) hkP hinit
  obtain ⟨vm₁, X₁, hstep₁⟩ := X.invokestatic hexec hown hlink hnamed hmethM hstatic hkP hinitP hy (g := g) hg (argsL := argsL) (rest := rest) (hlen _ hsigM) hstack hdg
  rcases hK m meth c ⟨T.setVm vm₁, locs, cells, slots⟩ { g with stack := rest } (.invokestatic index) mk argsL.toArray X₁ hg hsize hdg hW (X₁.named hnamed) (hpre vm₁ X₁.warmed) with ⟨v, B, X', hpost, hsteps⟩ | ⟨q, B, X', hpost, hsteps⟩
  · exact Or.inl ⟨v, vm₁, B, X₁.warmed, X', hpost, fun target h => hstep₁ _ fun acts => by rw [doInvoke_state]; exact hsteps.trans h⟩
  · exact Or.inr ⟨q, vm₁, B, X₁.warmed, X', hpost, hstep₁ _ fun acts => by rw [doInvoke_state]; exact hsteps⟩
theorem vx_callVW (X : Stand p l e R s m args below meth c T locs cells slots) (hexec : p.tables.exec = Jvm.exec) {own C : String} {index : Nat} {y : MethodName} {bytes : ByteArray} {maxL : Nat} {ret : Option FieldType} {hh : List (Nat × Nat × Nat × Nat)}
    (hown : s.vm.findClass own = some m.cls) (hlink : (Cond.methodLink own index y).before args s = true) (hinst : (Cond.instanceMethod y).before args s = true) (hsel : (Cond.selects C y y).before args s = true)
    (hcode : (Cond.codeWith y bytes maxL ret hh).before args s = true) (hy : y.cls ≠ "java/lang/invoke/MethodHandle" ∧ y.cls ≠ "java/lang/invoke/VarHandle")
    {W9 : Nat} {Pre : Pt → Array Value → Prop} {Post : Pt → Array Value → Option Value → Pt → Prop} (hK : Back l R p e below s args y 3 W9 Pre Post)
    {b : Addr} {cellB : Cell} (hcell : T.heap[b]? = some cellB) (hobj : cellB.vm.isStatics = false) (hcls : s.vm.findClass C = some cellB.cls)
    {g : JFrame} (hg : g.method = m) (hsize : g.locals.size = c.maxLocals) {argsL rest : List Value} (hlen : ∀ sig, parseMethodDescriptor y.desc = some sig → argsL.length = sig.parameters.length)
    (hstack : g.stack = argsL.reverse ++ .ref b :: rest) (hW : 2 * g.monitorRoom + (rest.map fun v => v.category).sum ≤ W9) (hdg : decode c.code g.pc = .ok (.invokevirtual index, 3))
    (hpre : ∀ vm₁, s.WarmedH vm₁ → Pre ⟨T.setVm vm₁, locs, cells, slots⟩ (Value.ref b :: argsL).toArray) :
    ∃ (v : Option Value) (vm₁ : Vm) (B : Pt), s.WarmedH vm₁ ∧ Stand p l e R s m args below meth c B.U B.locs B.cells B.slots ∧ Post ⟨T.setVm vm₁, locs, cells, slots⟩ (Value.ref b :: argsL).toArray v B ∧
      ∀ target, Steps p.tables e below (B.U.setTop { g with pc := g.pc + 3, stack := v.toList ++ rest }) target → Steps p.tables e below (T.setTop g) target := by
  obtain ⟨mk, methM, hnamed, hmethM, hstM, habM⟩ := Cond.instanceMethod_spec hinst
  obtain ⟨m8, methM', cM, hn8, hmethM', -, -, -, -, -, -, hsigM⟩ := Cond.codeWith_spec hcode
  cases Option.some.inj (hn8.symm.trans hnamed)
  cases hmethM.symm.trans hmethM'
  obtain ⟨c2, r2, m2, q1, q2, q3, q4, kP, hkP, hkPi⟩ := Cond.selects_spec hsel
  cases hcls.symm.trans q1
  cases (State.methodFound?_of_named hnamed hy).symm.trans q2
  cases hnamed.symm.trans q3
  have hselP : selectMethod e.platform s.vm cellB.cls mk = .method mk := by rw [Launch.admits_selectMethod X.admits]; exact q4
  obtain ⟨vm₁, X₁, hstep₁⟩ := X.invokevirtual hexec hown hlink hnamed hmethM hstM hkP hkPi hy (a := b) (cell := cellB) hcell
    (fun z h => by rw [h] at hobj; cases hobj) hselP hmethM habM hkP hkPi (g := g) hg (argsL := argsL) (rest := rest) (hlen _ hsigM) hstack hdg
  obtain ⟨v, B, X', hpost, hsteps⟩ := hK m meth c ⟨T.setVm vm₁, locs, cells, slots⟩ { g with stack := rest } (.invokevirtual index) mk (Value.ref b :: argsL).toArray X₁ hg hsize hdg hW (X₁.named hnamed) (hpre vm₁ X₁.warmed)
  exact ⟨v, vm₁, B, X₁.warmed, X', hpost, fun target h => hstep₁ _ fun acts => by rw [doInvoke_state]; exact hsteps.trans h⟩
abbrev vx_CVW (R : Room) (s : State) (args : Array Value) (own C : String) (index : Nat) (y : MethodName) (bytes : ByteArray) (maxL : Nat) (ret : Option FieldType) (hh : List (Nat × Nat × Nat × Nat)) (ws : List Cond) (rm : Room) (mc ms n : Nat) : Prop :=
  (rm.cells = mc ∧ rm.slots = ms ∧ rm.frames + 1 ≤ R.frames ∧ 8 + (maxL + 11) + rm.locals ≤ R.locals ∧ (∀ w ∈ ws, ∀ (a' : Array Value) (U : State), s.WarmedH U.vm → w.before a' U = true) ∧ Cond.codeWith y bytes maxL ret hh ∈ ws) ∧
  (Cond.codeWith y bytes maxL ret hh).before args s = true ∧ (Cond.initialized y.cls).before args s = true ∧ (y.cls ≠ "java/lang/invoke/MethodHandle" ∧ y.cls ≠ "java/lang/invoke/VarHandle") ∧
  (∀ sig, parseMethodDescriptor y.desc = some sig → n = sig.parameters.length) ∧ (Cond.methodLink own index y).before args s = true ∧ (Cond.instanceMethod y).before args s = true ∧ (Cond.selects C y y).before args s = true
theorem vx_cwVW {own C : String} {index maxL mc ms : Nat} {y : MethodName} {bytes : ByteArray} {ret : Option FieldType} {hh : List (Nat × Nat × Nat × Nat)} {Ts ws ws' : List Cond} {rm : Room} (n : Nat) (ht : ∀ w ∈ Ts, w.before args s = true) (hT : GoodIn Ts (wsV own index C y ws)) (hw : ws = Cond.codeWith y bytes maxL ret hh :: ws') (hrc : rm.cells = mc) (hrs : rm.slots = ms)
    (hd : y.cls = C ∧ y.cls ≠ "java/lang/invoke/MethodHandle" ∧ y.cls ≠ "java/lang/invoke/VarHandle" ∧ (parseMethodDescriptor y.desc).map (fun d => d.parameters.length) = some n) (hR : rm.frames + 1 ≤ R.frames ∧ 8 + (maxL + 11) + rm.locals ≤ R.locals) :
    vx_CVW R s args own C index y bytes maxL ret hh ws rm mc ms n := by
  obtain ⟨hC, hd⟩ := hd
  subst hC
  have ok : ∀ w ∈ wsV own index y.cls y ws, w.before args s = true := fun w h => ht w (hT w h).1
  have hG : GoodIn Ts ws := fun w h => hT w (by unfold wsV; exact List.mem_append_right _ h)
  have hc : Cond.codeWith y bytes maxL ret hh ∈ ws := by rw [hw]; exact List.mem_cons_self
  refine ⟨⟨hrc, hrs, hR.1, hR.2, pay_in ht hG, hc⟩, ht _ (hG _ hc).1, ok _ (by simp [wsV]), ⟨hd.1, hd.2.1⟩, fun sig h => ?_, ok _ (by simp [wsV]), ok _ (by simp [wsV]), ok _ (by simp [wsV])⟩
  have h2 := hd.2.2
  rw [h] at h2
  exact (Option.some.inj h2).symm
theorem vx_runVW {y : MethodName} {bytes cc : ByteArray} {maxL nL mc ms n index : Nat} {ret : Option FieldType} {hh : List (Nat × Nat × Nat × Nat)} {ws : List Cond} {rm : Room} {Pc : Array Value → State → Prop} {Qc : Array Value → State → Outcome → State → Prop} {free : Addr → Prop} {Ts : List Cond} {own C : String} {b : Addr} {As rest : List Value} {g : JFrame}
    (S : CallFix p m c cc nL s args Ts own) (hM : Met l y ws rm Pc Qc mc ms free) (cw : vx_CVW R s args own C index y bytes maxL ret hh ws rm mc ms n) (hp : PreV s H C b Pc As)
    (hg : g.method = m) (hn : As.length = n) (hsize : g.locals.size = nL) (hstack : g.stack = As.reverse ++ .ref b :: rest) (hW : 2 * g.monitorRoom + (rest.map fun v => v.category).sum ≤ 8) (hdg : decode cc g.pc = .ok (.invokevirtual index, 3)) (hf : cells + mc ≤ R.cells ∧ slots + ms ≤ R.slots) :
    va_Run p l e R s m args below meth c H locs cells slots mc ms g rest (Qc (Value.ref b :: As).toArray) free := by
  obtain ⟨⟨hrc, hrs, hfr, hlo, hws, hcw⟩, hcode, hini, hy, hlen, hl, hin, hse⟩ := cw
  have hK : Back l R p e below s args y 3 8 (PreOf R mc ms Pc) (PostOf Qc mc ms free) := va_backW (hh := hh) (bytes := bytes) (maxL := maxL) (ret := ret) hM hp.1 hrc hrs hfr hlo hws hcw (fun a' U hW => word_at hW (Or.inl (by first | rfl | simp [Cond.onTables, Cond.keeps, Cond.steady])) hini)
  obtain ⟨hx, hb, hml, ho, -⟩ := S
  obtain ⟨-, ⟨cellB, hcB, hoB, hclB⟩, hPc⟩ := hp
  intro T hT X
  obtain ⟨v, vm₁, ⟨U', l2, c2, s2⟩, hW₁, X', ⟨g', mk, t, L, e1, e2, hq, h1, hL, h2, h3⟩, st⟩ := vx_callVW X hx (C := C) (hh := hh) (bytes := bytes) (maxL := maxL) (ret := ret) ho hl hin hse hcode hy hK (by rw [hT]; exact hcB) hoB hclB hg (hsize.trans hml.symm) (argsL := As) (rest := rest) (fun sig h => hn.trans (hlen sig h)) hstack hW (by rw [hb]; exact hdg)
    (fun vm₁ hW₁ => ⟨hf.1, hf.2, hPc (T.setVm vm₁) hT hW₁⟩)
  dsimp only [Pt.U, Pt.locs, Pt.cells, Pt.slots] at X' e1 e2 h1 h2 h3 st
  subst h1; subst h2; subst h3
  exact ⟨v, (T.setVm vm₁).calling g' mk (Value.ref b :: As).toArray, t, U', L, hT, X', hL, e1, e2, hq, st⟩
section
variable {y : MethodName} {bytes cc : ByteArray} {maxL nL mc ms n index : Nat} {ret : Option FieldType} {ws : List Cond} {rm : Room} {Pc : Array Value → State → Prop} {Qc : Array Value → State → Outcome → State → Prop} {XC : String → State → State → Prop} {free : Addr → Prop} {Ts : List Cond} {own C : String} {b : Addr} {As rest : List Value} {g : JFrame}
theorem vx_runVX {hh : List (Nat × Nat × Nat × Nat)} (S : CallFix p m c cc nL s args Ts own) (hM : vx_Met l y ws rm Pc Qc XC mc ms free) (cw : vx_CVW R s args own C index y bytes maxL ret hh ws rm mc ms n) (hp : PreV s H C b Pc As)
    (hg : g.method = m) (hn : As.length = n) (hsize : g.locals.size = nL) (hstack : g.stack = As.reverse ++ .ref b :: rest) (hW : 2 * g.monitorRoom + (rest.map fun v => v.category).sum ≤ 8) (hdg : decode cc g.pc = .ok (.invokevirtual index, 3)) (hf : cells + mc ≤ R.cells ∧ slots + ms ≤ R.slots) :
    vx_Run p l e R s m args below meth c H locs cells slots mc ms g rest (Qc (Value.ref b :: As).toArray) XC free := by
  obtain ⟨⟨hrc, hrs, hfr, hlo, hws, hcw⟩, hcode, hini, hy, hlen, hl, hin, hse⟩ := cw
  have hK : vx_Back l R p e below s args y 3 8 (PreOf R mc ms Pc) (PostOf Qc mc ms free) (vx_Post XC mc ms free) := vx_backW (hh := hh) (bytes := bytes) (maxL := maxL) (ret := ret) hM hp.1 hrc hrs hfr hlo hws hcw (fun a' U hW => word_at hW (Or.inl (by first | rfl | simp [Cond.onTables, Cond.keeps, Cond.steady])) hini)
  obtain ⟨hx, hb, hml, ho, -⟩ := S
  obtain ⟨-, ⟨cellB, hcB, hoB, hclB⟩, hPc⟩ := hp
  intro T hT X
  rcases vx_callVX X hx (C := C) (hh := hh) (bytes := bytes) (maxL := maxL) (ret := ret) ho hl hin hse hcode hy hK (by rw [hT]; exact hcB) hoB hclB hg (hsize.trans hml.symm) (argsL := As) (rest := rest) (fun sig h => hn.trans (hlen sig h)) hstack hW (by rw [hb]; exact hdg)
    (fun vm₁ hW₁ => ⟨hf.1, hf.2, hPc (T.setVm vm₁) hT hW₁⟩) with ⟨v, vm₁, ⟨U', l2, c2, s2⟩, hW₁, X', ⟨g', mk, t, L, e1, e2, hq, h1, hL, h2, h3⟩, st⟩ | ⟨q, vm₁, ⟨U', l2, c2, s2⟩, hW₁, X', ⟨g', mk, t, L, E, ce, e1, e2, hq, hce, hcv, hcl, h1, hL, h2, h3⟩, st⟩
  · dsimp only [Pt.U, Pt.locs, Pt.cells, Pt.slots] at X' e1 e2 h1 h2 h3 st
    subst h1; subst h2; subst h3
    exact Or.inl ⟨v, (T.setVm vm₁).calling g' mk (Value.ref b :: As).toArray, t, U', L, hT, X', hL, e1, e2, hq, st⟩
  · dsimp only [Pt.U, Pt.locs, Pt.cells, Pt.slots] at X' e1 e2 h1 h2 h3 st hcl
    subst h1; subst h2; subst h3
    exact Or.inr ⟨q, (T.setVm vm₁).calling g' mk (Value.ref b :: As).toArray, t, U', L, E, ce, hT, X', hL, e1, e2, hq, hce, hcv, vx_cls hW₁ hcl, st⟩
theorem vx_runSX {hh : List (Nat × Nat × Nat × Nat)} (S : CallFix p m c cc nL s args Ts own) (hM : vx_Met l y ws rm Pc Qc XC mc ms free) (cw : vx_CSW R s args own index y bytes maxL ret hh ws rm mc ms n) (hp : PreS s H Pc As)
    (hg : g.method = m) (hn : As.length = n) (hsize : g.locals.size = nL) (hstack : g.stack = As.reverse ++ rest) (hW : 2 * g.monitorRoom + (rest.map fun v => v.category).sum ≤ 8) (hdg : decode cc g.pc = .ok (.invokestatic index, 3)) (hf : cells + mc ≤ R.cells ∧ slots + ms ≤ R.slots) :
    vx_Run p l e R s m args below meth c H locs cells slots mc ms g rest (Qc As.toArray) XC free := by
  obtain ⟨⟨hrc, hrs, hfr, hlo, hws, hcw⟩, hcode, hini, hy, hlen, hl, hstt⟩ := cw
  have hK : vx_Back l R p e below s args y 3 8 (PreOf R mc ms Pc) (PostOf Qc mc ms free) (vx_Post XC mc ms free) := vx_backW (hh := hh) (bytes := bytes) (maxL := maxL) (ret := ret) hM hp.1 hrc hrs hfr hlo hws hcw (fun a' U hW => word_at hW (Or.inl (by first | rfl | simp [Cond.onTables, Cond.keeps, Cond.steady])) hini)
  obtain ⟨hx, hb, hml, ho, -⟩ := S
  intro T hT X
  rcases vx_callSX X hx (hh := hh) (bytes := bytes) (maxL := maxL) (ret := ret) ho hl hstt hini hcode hy hK hg (hsize.trans hml.symm) (argsL := As) (rest := rest) (fun sig h => hn.trans (hlen sig h)) hstack hW (by rw [hb]; exact hdg)
    (fun vm₁ hW₁ => ⟨hf.1, hf.2, hp.2 (T.setVm vm₁) hT hW₁⟩) with ⟨v, vm₁, ⟨U', l2, c2, s2⟩, hW₁, X', ⟨g', mk, t, L, e1, e2, hq, h1, hL, h2, h3⟩, st⟩ | ⟨q, vm₁, ⟨U', l2, c2, s2⟩, hW₁, X', ⟨g', mk, t, L, E, ce, e1, e2, hq, hce, hcv, hcl, h1, hL, h2, h3⟩, st⟩
  · dsimp only [Pt.U, Pt.locs, Pt.cells, Pt.slots] at X' e1 e2 h1 h2 h3 st
    subst h1; subst h2; subst h3
    exact Or.inl ⟨v, (T.setVm vm₁).calling g' mk As.toArray, t, U', L, hT, X', hL, e1, e2, hq, st⟩
  · dsimp only [Pt.U, Pt.locs, Pt.cells, Pt.slots] at X' e1 e2 h1 h2 h3 st hcl
    subst h1; subst h2; subst h3
    exact Or.inr ⟨q, (T.setVm vm₁).calling g' mk As.toArray, t, U', L, E, ce, hT, X', hL, e1, e2, hq, hce, hcv, vx_cls hW₁ hcl, st⟩
end
end VXH
theorem vx_ofWH {l : Launch} {y : MethodName} {ws ws' : List Cond} {rm : Room} {Pc : Array Value → State → Prop} {Qc : Array Value → State → Outcome → State → Prop} {XC : String → State → State → Prop} {mc ms : Nat} {free : Addr → Prop} {cc : ByteArray} {maxL : Nat} {ret : Option FieldType} {hh : List (Nat × Nat × Nat × Nat)}
    (hy : plainName y.cls = true) (hw : ws = Cond.codeWith y cc maxL ret hh :: ws')
    (body : ∀ p e s m args below meth c s₁, BodyLoose p l y (headSpec ws rm) cc maxL ret e s m args below meth c s₁ → c.maxLocals = maxL → Pc args s →
      W p l e (headSpec ws rm).room s m args below meth c s.heap [] 0 0 (vx_MQ below Qc XC args s mc ms free) (entryFrame m args maxL)) : vx_Met l y ws rm Pc Qc XC mc ms free := by
  refine MetFree.of_bodyS (code := cc) (maxLocals := maxL) (ret := ret) hy ?_ ?_
  · intro args s m h hn
    obtain ⟨m9, meth, c, hn9, h1, h2, h3, h4, -, h5, h6, -⟩ := Cond.codeWith_spec (atoms_spec (ws := ws) h _ (by rw [hw]; exact List.mem_cons_self))
    cases hn.symm.trans hn9
    exact ⟨meth, c, h1, h2, h3, h4, h5, h6⟩
  · intro p e s m args below meth c s₁ B hml hP _
    have hh0 : s₁.heap = s.heap := by rw [B.state]; rfl
    obtain ⟨t, a1, o, b1, b2, b3⟩ := body p e s m args below meth c s₁ B hml hP s₁ hh0 (Stand.of_body B)
    exact ⟨t, o, a1, b1, b2, b3⟩
/-! ===== END ===== -/
end
section
-- ===== PART A: goes FIRST, ahead of the names: the tables' words, and 'selects' of the private methods out of them =====
/-- a private method of a class that the tables say can be made, by its rows of tables_1 -/
def lw_okq (q : MethodName × Nat) : Prop := (q.1.cls ≠ "java/lang/invoke/MethodHandle" ∧ q.1.cls ≠ "java/lang/invoke/VarHandle") ∧ Cond.instantiable q.1.cls q.2 ∈ tables_1 ∧ Cond.privateMethod q.1 ∈ tables_1 ∧ Cond.instanceMethod q.1 ∈ tables_1
theorem lw_p0 : lw_okq (⟨"ClassifyRules", "placeOf", "(I)I"⟩, 18) := ⟨⟨by decide +kernel, by decide +kernel⟩, List.mem_of_getElem? (i := 11) (by decide +kernel), List.mem_of_getElem? (i := 79) (by decide +kernel), List.mem_of_getElem? (i := 80) (by decide +kernel)⟩
theorem lw_p1 : lw_okq (⟨"ClassifyRules", "leftSet", "()I"⟩, 18) := ⟨⟨by decide +kernel, by decide +kernel⟩, List.mem_of_getElem? (i := 11) (by decide +kernel), List.mem_of_getElem? (i := 87) (by decide +kernel), List.mem_of_getElem? (i := 88) (by decide +kernel)⟩
theorem lw_p2 : lw_okq (⟨"ClassifyRules", "everyCode", "()I"⟩, 18) := ⟨⟨by decide +kernel, by decide +kernel⟩, List.mem_of_getElem? (i := 11) (by decide +kernel), List.mem_of_getElem? (i := 91) (by decide +kernel), List.mem_of_getElem? (i := 92) (by decide +kernel)⟩
theorem lw_p3 : lw_okq (⟨"ClassifyRules", "leaves", "(II)I"⟩, 18) := ⟨⟨by decide +kernel, by decide +kernel⟩, List.mem_of_getElem? (i := 11) (by decide +kernel), List.mem_of_getElem? (i := 95) (by decide +kernel), List.mem_of_getElem? (i := 96) (by decide +kernel)⟩
theorem lw_p4 : lw_okq (⟨"ClassifyRules", "openQuestions", "()I"⟩, 18) := ⟨⟨by decide +kernel, by decide +kernel⟩, List.mem_of_getElem? (i := 11) (by decide +kernel), List.mem_of_getElem? (i := 108) (by decide +kernel), List.mem_of_getElem? (i := 109) (by decide +kernel)⟩
theorem lw_p5 : lw_okq (⟨"ClassifyRules", "partingOf", "(II)I"⟩, 18) := ⟨⟨by decide +kernel, by decide +kernel⟩, List.mem_of_getElem? (i := 11) (by decide +kernel), List.mem_of_getElem? (i := 112) (by decide +kernel), List.mem_of_getElem? (i := 113) (by decide +kernel)⟩
theorem lw_p6 : lw_okq (⟨"ClassifyRules", "parts", "(II)Z"⟩, 18) := ⟨⟨by decide +kernel, by decide +kernel⟩, List.mem_of_getElem? (i := 11) (by decide +kernel), List.mem_of_getElem? (i := 125) (by decide +kernel), List.mem_of_getElem? (i := 126) (by decide +kernel)⟩
theorem lw_p7 : lw_okq (⟨"ClassifyRules", "neededWith", "(IIII)I"⟩, 18) := ⟨⟨by decide +kernel, by decide +kernel⟩, List.mem_of_getElem? (i := 11) (by decide +kernel), List.mem_of_getElem? (i := 129) (by decide +kernel), List.mem_of_getElem? (i := 130) (by decide +kernel)⟩
theorem lw_p8 : lw_okq (⟨"ClassifyRules", "neededFor", "(IIII)I"⟩, 18) := ⟨⟨by decide +kernel, by decide +kernel⟩, List.mem_of_getElem? (i := 11) (by decide +kernel), List.mem_of_getElem? (i := 136) (by decide +kernel), List.mem_of_getElem? (i := 137) (by decide +kernel)⟩
theorem lw_p9 : lw_okq (⟨"ClassifyRules", "ruledCode", "()I"⟩, 18) := ⟨⟨by decide +kernel, by decide +kernel⟩, List.mem_of_getElem? (i := 11) (by decide +kernel), List.mem_of_getElem? (i := 151) (by decide +kernel), List.mem_of_getElem? (i := 152) (by decide +kernel)⟩
theorem lw_p10 : lw_okq (⟨"ClassifyRules", "holds", "(I)Z"⟩, 18) := ⟨⟨by decide +kernel, by decide +kernel⟩, List.mem_of_getElem? (i := 11) (by decide +kernel), List.mem_of_getElem? (i := 155) (by decide +kernel), List.mem_of_getElem? (i := 156) (by decide +kernel)⟩
theorem lw_p11 : lw_okq (⟨"ClassifyRules", "isGiven", "(I)Z"⟩, 18) := ⟨⟨by decide +kernel, by decide +kernel⟩, List.mem_of_getElem? (i := 11) (by decide +kernel), List.mem_of_getElem? (i := 159) (by decide +kernel), List.mem_of_getElem? (i := 160) (by decide +kernel)⟩
theorem lw_p12 : lw_okq (⟨"ClassifyRules", "answerTo", "(I)I"⟩, 18) := ⟨⟨by decide +kernel, by decide +kernel⟩, List.mem_of_getElem? (i := 11) (by decide +kernel), List.mem_of_getElem? (i := 163) (by decide +kernel), List.mem_of_getElem? (i := 164) (by decide +kernel)⟩
theorem lw_p13 : lw_okq (⟨"ClassifyRules", "mostSpecificOf", "(I)I"⟩, 18) := ⟨⟨by decide +kernel, by decide +kernel⟩, List.mem_of_getElem? (i := 11) (by decide +kernel), List.mem_of_getElem? (i := 167) (by decide +kernel), List.mem_of_getElem? (i := 168) (by decide +kernel)⟩
theorem lw_p14 : lw_okq (⟨"ClassifyRules", "greatestShareOf", "(I)I"⟩, 18) := ⟨⟨by decide +kernel, by decide +kernel⟩, List.mem_of_getElem? (i := 11) (by decide +kernel), List.mem_of_getElem? (i := 171) (by decide +kernel), List.mem_of_getElem? (i := 172) (by decide +kernel)⟩
theorem lw_p15 : lw_okq (⟨"ClassifyRules", "lastNumberOf", "(I)I"⟩, 18) := ⟨⟨by decide +kernel, by decide +kernel⟩, List.mem_of_getElem? (i := 11) (by decide +kernel), List.mem_of_getElem? (i := 178) (by decide +kernel), List.mem_of_getElem? (i := 179) (by decide +kernel)⟩
def lw_privs_1 : List (MethodName × Nat) := [(⟨"ClassifyRules", "placeOf", "(I)I"⟩, 18), (⟨"ClassifyRules", "leftSet", "()I"⟩, 18), (⟨"ClassifyRules", "everyCode", "()I"⟩, 18), (⟨"ClassifyRules", "leaves", "(II)I"⟩, 18), (⟨"ClassifyRules", "openQuestions", "()I"⟩, 18), (⟨"ClassifyRules", "partingOf", "(II)I"⟩, 18), (⟨"ClassifyRules", "parts", "(II)Z"⟩, 18), (⟨"ClassifyRules", "neededWith", "(IIII)I"⟩, 18), (⟨"ClassifyRules", "neededFor", "(IIII)I"⟩, 18), (⟨"ClassifyRules", "ruledCode", "()I"⟩, 18), (⟨"ClassifyRules", "holds", "(I)Z"⟩, 18), (⟨"ClassifyRules", "isGiven", "(I)Z"⟩, 18), (⟨"ClassifyRules", "answerTo", "(I)I"⟩, 18), (⟨"ClassifyRules", "mostSpecificOf", "(I)I"⟩, 18), (⟨"ClassifyRules", "greatestShareOf", "(I)I"⟩, 18), (⟨"ClassifyRules", "lastNumberOf", "(I)I"⟩, 18)]
theorem lw_r1 : ∀ q ∈ lw_privs_1, lw_okq q := List.forall_mem_cons.mpr ⟨lw_p0, List.forall_mem_cons.mpr ⟨lw_p1, List.forall_mem_cons.mpr ⟨lw_p2, List.forall_mem_cons.mpr ⟨lw_p3, List.forall_mem_cons.mpr ⟨lw_p4, List.forall_mem_cons.mpr ⟨lw_p5, List.forall_mem_cons.mpr ⟨lw_p6, List.forall_mem_cons.mpr ⟨lw_p7, List.forall_mem_cons.mpr ⟨lw_p8, List.forall_mem_cons.mpr ⟨lw_p9, List.forall_mem_cons.mpr ⟨lw_p10, List.forall_mem_cons.mpr ⟨lw_p11, List.forall_mem_cons.mpr ⟨lw_p12, List.forall_mem_cons.mpr ⟨lw_p13, List.forall_mem_cons.mpr ⟨lw_p14, List.forall_mem_cons.mpr ⟨lw_p15, fun _ h => absurd h List.not_mem_nil⟩⟩⟩⟩⟩⟩⟩⟩⟩⟩⟩⟩⟩⟩⟩⟩
theorem lw_p16 : lw_okq (⟨"ClassifyRules", "howManyHold", "()I"⟩, 18) := ⟨⟨by decide +kernel, by decide +kernel⟩, List.mem_of_getElem? (i := 11) (by decide +kernel), List.mem_of_getElem? (i := 207) (by decide +kernel), List.mem_of_getElem? (i := 208) (by decide +kernel)⟩
theorem lw_p17 : lw_okq (⟨"java/lang/Throwable", "fillInStackTrace", "(I)Ljava/lang/Throwable;"⟩, 6) := ⟨⟨by decide +kernel, by decide +kernel⟩, List.mem_of_getElem? (i := 261) (by decide +kernel), List.mem_of_getElem? (i := 259) (by decide +kernel), List.mem_of_getElem? (i := 260) (by decide +kernel)⟩
theorem lw_p18 : lw_okq (⟨"ClassifyRules", "howManyBelow", "(I)I"⟩, 18) := ⟨⟨by decide +kernel, by decide +kernel⟩, List.mem_of_getElem? (i := 11) (by decide +kernel), List.mem_of_getElem? (i := 307) (by decide +kernel), List.mem_of_getElem? (i := 308) (by decide +kernel)⟩
theorem lw_p19 : lw_okq (⟨"ClassifyRules", "makeRoomAt", "(I)V"⟩, 18) := ⟨⟨by decide +kernel, by decide +kernel⟩, List.mem_of_getElem? (i := 11) (by decide +kernel), List.mem_of_getElem? (i := 311) (by decide +kernel), List.mem_of_getElem? (i := 312) (by decide +kernel)⟩
theorem lw_p20 : lw_okq (⟨"ClassifyRules", "leftByRules", "(I)I"⟩, 18) := ⟨⟨by decide +kernel, by decide +kernel⟩, List.mem_of_getElem? (i := 11) (by decide +kernel), List.mem_of_getElem? (i := 318) (by decide +kernel), List.mem_of_getElem? (i := 319) (by decide +kernel)⟩
theorem lw_p21 : lw_okq (⟨"ClassifyRules", "takeBack", "(I)V"⟩, 18) := ⟨⟨by decide +kernel, by decide +kernel⟩, List.mem_of_getElem? (i := 11) (by decide +kernel), List.mem_of_getElem? (i := 339) (by decide +kernel), List.mem_of_getElem? (i := 340) (by decide +kernel)⟩
theorem lw_p22 : lw_okq (⟨"ClassifyRules", "give", "(II)V"⟩, 18) := ⟨⟨by decide +kernel, by decide +kernel⟩, List.mem_of_getElem? (i := 11) (by decide +kernel), List.mem_of_getElem? (i := 343) (by decide +kernel), List.mem_of_getElem? (i := 344) (by decide +kernel)⟩
theorem lw_p23 : lw_okq (⟨"ClassifyRulesModel", "find", "(I)I"⟩, 27) := ⟨⟨by decide +kernel, by decide +kernel⟩, List.mem_of_getElem? (i := 364) (by decide +kernel), List.mem_of_getElem? (i := 465) (by decide +kernel), List.mem_of_getElem? (i := 466) (by decide +kernel)⟩
theorem lw_p24 : lw_okq (⟨"ClassifyRulesModel", "leftMany", "()I"⟩, 27) := ⟨⟨by decide +kernel, by decide +kernel⟩, List.mem_of_getElem? (i := 364) (by decide +kernel), List.mem_of_getElem? (i := 484) (by decide +kernel), List.mem_of_getElem? (i := 485) (by decide +kernel)⟩
theorem lw_p25 : lw_okq (⟨"ClassifyRulesModel", "isLeft", "(I)Z"⟩, 27) := ⟨⟨by decide +kernel, by decide +kernel⟩, List.mem_of_getElem? (i := 364) (by decide +kernel), List.mem_of_getElem? (i := 488) (by decide +kernel), List.mem_of_getElem? (i := 489) (by decide +kernel)⟩
theorem lw_p26 : lw_okq (⟨"ClassifyRulesModel", "doesLeave", "(II)Z"⟩, 27) := ⟨⟨by decide +kernel, by decide +kernel⟩, List.mem_of_getElem? (i := 364) (by decide +kernel), List.mem_of_getElem? (i := 492) (by decide +kernel), List.mem_of_getElem? (i := 493) (by decide +kernel)⟩
theorem lw_p27 : lw_okq (⟨"ClassifyRulesModel", "reckon", "()I"⟩, 27) := ⟨⟨by decide +kernel, by decide +kernel⟩, List.mem_of_getElem? (i := 364) (by decide +kernel), List.mem_of_getElem? (i := 500) (by decide +kernel), List.mem_of_getElem? (i := 501) (by decide +kernel)⟩
theorem lw_p28 : lw_okq (⟨"ClassifyRulesModel", "leftSet", "()I"⟩, 27) := ⟨⟨by decide +kernel, by decide +kernel⟩, List.mem_of_getElem? (i := 364) (by decide +kernel), List.mem_of_getElem? (i := 504) (by decide +kernel), List.mem_of_getElem? (i := 505) (by decide +kernel)⟩
theorem lw_p29 : lw_okq (⟨"ClassifyRulesModel", "openSet", "()I"⟩, 27) := ⟨⟨by decide +kernel, by decide +kernel⟩, List.mem_of_getElem? (i := 364) (by decide +kernel), List.mem_of_getElem? (i := 508) (by decide +kernel), List.mem_of_getElem? (i := 509) (by decide +kernel)⟩
theorem lw_p30 : lw_okq (⟨"ClassifyRulesModel", "begin", "(III)V"⟩, 27) := ⟨⟨by decide +kernel, by decide +kernel⟩, List.mem_of_getElem? (i := 364) (by decide +kernel), List.mem_of_getElem? (i := 512) (by decide +kernel), List.mem_of_getElem? (i := 513) (by decide +kernel)⟩
theorem lw_p31 : lw_okq (⟨"ClassifyRulesModel", "parts", "(II)Z"⟩, 27) := ⟨⟨by decide +kernel, by decide +kernel⟩, List.mem_of_getElem? (i := 364) (by decide +kernel), List.mem_of_getElem? (i := 519) (by decide +kernel), List.mem_of_getElem? (i := 520) (by decide +kernel)⟩
def lw_privs_2 : List (MethodName × Nat) := [(⟨"ClassifyRules", "howManyHold", "()I"⟩, 18), (⟨"java/lang/Throwable", "fillInStackTrace", "(I)Ljava/lang/Throwable;"⟩, 6), (⟨"ClassifyRules", "howManyBelow", "(I)I"⟩, 18), (⟨"ClassifyRules", "makeRoomAt", "(I)V"⟩, 18), (⟨"ClassifyRules", "leftByRules", "(I)I"⟩, 18), (⟨"ClassifyRules", "takeBack", "(I)V"⟩, 18), (⟨"ClassifyRules", "give", "(II)V"⟩, 18), (⟨"ClassifyRulesModel", "find", "(I)I"⟩, 27), (⟨"ClassifyRulesModel", "leftMany", "()I"⟩, 27), (⟨"ClassifyRulesModel", "isLeft", "(I)Z"⟩, 27), (⟨"ClassifyRulesModel", "doesLeave", "(II)Z"⟩, 27), (⟨"ClassifyRulesModel", "reckon", "()I"⟩, 27), (⟨"ClassifyRulesModel", "leftSet", "()I"⟩, 27), (⟨"ClassifyRulesModel", "openSet", "()I"⟩, 27), (⟨"ClassifyRulesModel", "begin", "(III)V"⟩, 27), (⟨"ClassifyRulesModel", "parts", "(II)Z"⟩, 27)]
theorem lw_r2 : ∀ q ∈ lw_privs_2, lw_okq q := List.forall_mem_cons.mpr ⟨lw_p16, List.forall_mem_cons.mpr ⟨lw_p17, List.forall_mem_cons.mpr ⟨lw_p18, List.forall_mem_cons.mpr ⟨lw_p19, List.forall_mem_cons.mpr ⟨lw_p20, List.forall_mem_cons.mpr ⟨lw_p21, List.forall_mem_cons.mpr ⟨lw_p22, List.forall_mem_cons.mpr ⟨lw_p23, List.forall_mem_cons.mpr ⟨lw_p24, List.forall_mem_cons.mpr ⟨lw_p25, List.forall_mem_cons.mpr ⟨lw_p26, List.forall_mem_cons.mpr ⟨lw_p27, List.forall_mem_cons.mpr ⟨lw_p28, List.forall_mem_cons.mpr ⟨lw_p29, List.forall_mem_cons.mpr ⟨lw_p30, List.forall_mem_cons.mpr ⟨lw_p31, fun _ h => absurd h List.not_mem_nil⟩⟩⟩⟩⟩⟩⟩⟩⟩⟩⟩⟩⟩⟩⟩⟩
theorem lw_p32 : lw_okq (⟨"ClassifyRulesModel", "turnTo", "(IZ)V"⟩, 27) := ⟨⟨by decide +kernel, by decide +kernel⟩, List.mem_of_getElem? (i := 364) (by decide +kernel), List.mem_of_getElem? (i := 523) (by decide +kernel), List.mem_of_getElem? (i := 524) (by decide +kernel)⟩
theorem lw_p33 : lw_okq (⟨"ClassifyRulesModel", "ruled", "()I"⟩, 27) := ⟨⟨by decide +kernel, by decide +kernel⟩, List.mem_of_getElem? (i := 364) (by decide +kernel), List.mem_of_getElem? (i := 535) (by decide +kernel), List.mem_of_getElem? (i := 536) (by decide +kernel)⟩
theorem lw_p34 : lw_okq (⟨"ClassifyRulesModel", "holds", "(I)Z"⟩, 27) := ⟨⟨by decide +kernel, by decide +kernel⟩, List.mem_of_getElem? (i := 364) (by decide +kernel), List.mem_of_getElem? (i := 539) (by decide +kernel), List.mem_of_getElem? (i := 540) (by decide +kernel)⟩
theorem lw_p35 : lw_okq (⟨"ClassifyRulesModel", "isGiven", "(I)Z"⟩, 27) := ⟨⟨by decide +kernel, by decide +kernel⟩, List.mem_of_getElem? (i := 364) (by decide +kernel), List.mem_of_getElem? (i := 543) (by decide +kernel), List.mem_of_getElem? (i := 544) (by decide +kernel)⟩
theorem lw_p36 : lw_okq (⟨"ClassifyRulesModel", "bestLeft", "()I"⟩, 27) := ⟨⟨by decide +kernel, by decide +kernel⟩, List.mem_of_getElem? (i := 364) (by decide +kernel), List.mem_of_getElem? (i := 547) (by decide +kernel), List.mem_of_getElem? (i := 548) (by decide +kernel)⟩
theorem lw_p37 : lw_okq (⟨"ClassifyRulesModel", "ahead", "(II)I"⟩, 27) := ⟨⟨by decide +kernel, by decide +kernel⟩, List.mem_of_getElem? (i := 364) (by decide +kernel), List.mem_of_getElem? (i := 551) (by decide +kernel), List.mem_of_getElem? (i := 552) (by decide +kernel)⟩
theorem lw_p38 : lw_okq (⟨"ClassifyRulesModel", "isLeftBy", "(II)Z"⟩, 27) := ⟨⟨by decide +kernel, by decide +kernel⟩, List.mem_of_getElem? (i := 364) (by decide +kernel), List.mem_of_getElem? (i := 567) (by decide +kernel), List.mem_of_getElem? (i := 568) (by decide +kernel)⟩
def lw_privs_3 : List (MethodName × Nat) := [(⟨"ClassifyRulesModel", "turnTo", "(IZ)V"⟩, 27), (⟨"ClassifyRulesModel", "ruled", "()I"⟩, 27), (⟨"ClassifyRulesModel", "holds", "(I)Z"⟩, 27), (⟨"ClassifyRulesModel", "isGiven", "(I)Z"⟩, 27), (⟨"ClassifyRulesModel", "bestLeft", "()I"⟩, 27), (⟨"ClassifyRulesModel", "ahead", "(II)I"⟩, 27), (⟨"ClassifyRulesModel", "isLeftBy", "(II)Z"⟩, 27)]
theorem lw_r3 : ∀ q ∈ lw_privs_3, lw_okq q := List.forall_mem_cons.mpr ⟨lw_p32, List.forall_mem_cons.mpr ⟨lw_p33, List.forall_mem_cons.mpr ⟨lw_p34, List.forall_mem_cons.mpr ⟨lw_p35, List.forall_mem_cons.mpr ⟨lw_p36, List.forall_mem_cons.mpr ⟨lw_p37, List.forall_mem_cons.mpr ⟨lw_p38, fun _ h => absurd h List.not_mem_nil⟩⟩⟩⟩⟩⟩⟩
def lw_privs : List (MethodName × Nat) := lw_privs_1 ++ (lw_privs_2 ++ (lw_privs_3))
def lw_tbl : List Cond := k2_sels lw_privs ++ tables_1
theorem lw_privs_ok : ∀ q ∈ lw_privs, lw_okq q := by
  show ∀ q ∈ lw_privs_1 ++ (lw_privs_2 ++ (lw_privs_3)), lw_okq q
  exact List.forall_mem_append.mpr ⟨lw_r1, List.forall_mem_append.mpr ⟨lw_r2, lw_r3⟩⟩
def R_X : String := "ClassifyRules"
def F_X : u_T := fun k => match k with
  | 0 => ("ClassifyRules", "codes", "I", false)
  | 1 => ("ClassifyRules", "number", "[I", true)
  | 2 => ("ClassifyRules", "specificity", "[I", true)
  | 3 => ("ClassifyRules", "shareUp", "[I", true)
  | 4 => ("ClassifyRules", "shareDown", "[I", true)
  | 5 => ("ClassifyRules", "rules", "I", false)
  | 6 => ("ClassifyRules", "keptWith", "[I", true)
  | 7 => ("ClassifyRules", "fallingWith", "[I", true)
  | 8 => ("ClassifyRules", "leftWith", "[I", true)
  | 9 => ("ClassifyRules", "answers", "I", false)
  | 10 => ("ClassifyRules", "given", "[I", true)
  | 11 => ("ClassifyRules", "order", "[I", true)
  | 12 => ("ClassifyRules", "precedents", "I", false)
  | 13 => ("ClassifyRules", "precedentCode", "[I", true)
  | 14 => ("ClassifyRules", "precedentFirst", "[I", true)
  | 15 => ("ClassifyRules", "precedentSecond", "[I", true)
  | 16 => ("ClassifyRules", "precedentUntil", "[I", true)
  | _ => ("ClassifyRules", "today", "I", false)
def t_X : Nat → FieldType := fun k => match k with
  | 0 => .int
  | 1 => .array .int
  | 2 => .array .int
  | 3 => .array .int
  | 4 => .array .int
  | 5 => .int
  | 6 => .array .int
  | 7 => .array .int
  | 8 => .array .int
  | 9 => .int
  | 10 => .array .int
  | 11 => .array .int
  | 12 => .int
  | 13 => .array .int
  | 14 => .array .int
  | 15 => .array .int
  | 16 => .array .int
  | _ => .int
theorem n_X : ∀ a, a < 18 → ∀ b, b < 18 → a ≠ b → (F_X a).2.1 ≠ (F_X b).2.1 := by decide +kernel
theorem t_X_ok : ∀ k, k < 18 → parseFieldDescriptor (F_X k).2.2.1 = some (t_X k) := by decide +kernel
def R_M : String := "ClassifyRulesModel"
def F_M : u_T := fun k => match k with
  | 0 => ("ClassifyRulesModel", "thrown", "I", false)
  | 1 => ("ClassifyRulesModel", "codes", "I", false)
  | 2 => ("ClassifyRulesModel", "rules", "I", false)
  | 3 => ("ClassifyRulesModel", "precedents", "I", false)
  | 4 => ("ClassifyRulesModel", "today", "I", false)
  | 5 => ("ClassifyRulesModel", "turns", "I", false)
  | 6 => ("ClassifyRulesModel", "numberOf", "[I", true)
  | 7 => ("ClassifyRulesModel", "specificOf", "[I", true)
  | 8 => ("ClassifyRulesModel", "upOf", "[I", true)
  | 9 => ("ClassifyRulesModel", "downOf", "[I", true)
  | 10 => ("ClassifyRulesModel", "ruleAt", "[I", true)
  | 11 => ("ClassifyRulesModel", "ruleCode", "[I", true)
  | 12 => ("ClassifyRulesModel", "ruleKeeps", "[Z", true)
  | 13 => ("ClassifyRulesModel", "given", "[I", true)
  | 14 => ("ClassifyRulesModel", "turn", "[I", true)
  | 15 => ("ClassifyRulesModel", "precedentCode", "[I", true)
  | 16 => ("ClassifyRulesModel", "precedentFirst", "[I", true)
  | 17 => ("ClassifyRulesModel", "precedentSecond", "[I", true)
  | 18 => ("ClassifyRulesModel", "precedentUntil", "[I", true)
  | 19 => ("ClassifyRulesModel", "leaves", "[I", true)
  | 20 => ("ClassifyRulesModel", "wayLeft", "[I", true)
  | 21 => ("ClassifyRulesModel", "wayOpen", "[I", true)
  | 22 => ("ClassifyRulesModel", "wayQuestion", "[I", true)
  | 23 => ("ClassifyRulesModel", "wayAnswer", "[I", true)
  | 24 => ("ClassifyRulesModel", "wayMost", "[I", true)
  | 25 => ("ClassifyRulesModel", "wayBest", "[I", true)
  | _ => ("ClassifyRulesModel", "wayFirst", "I", false)
def t_M : Nat → FieldType := fun k => match k with
  | 0 => .int
  | 1 => .int
  | 2 => .int
  | 3 => .int
  | 4 => .int
  | 5 => .int
  | 6 => .array .int
  | 7 => .array .int
  | 8 => .array .int
  | 9 => .array .int
  | 10 => .array .int
  | 11 => .array .int
  | 12 => .array .boolean
  | 13 => .array .int
  | 14 => .array .int
  | 15 => .array .int
  | 16 => .array .int
  | 17 => .array .int
  | 18 => .array .int
  | 19 => .array .int
  | 20 => .array .int
  | 21 => .array .int
  | 22 => .array .int
  | 23 => .array .int
  | 24 => .array .int
  | 25 => .array .int
  | _ => .int
theorem n_M : ∀ a, a < 27 → ∀ b, b < 27 → a ≠ b → (F_M a).2.1 ≠ (F_M b).2.1 := by decide +kernel
theorem t_M_ok : ∀ k, k < 27 → parseFieldDescriptor (F_M k).2.2.1 = some (t_M k) := by decide +kernel
def R_L : String := "ClassifyRulesLaw"
def R_Int : String := "java/lang/Integer"
abbrev classes : List vw_C := [(R_X, F_X, 18), (R_M, F_M, 27)]
def allw : List Cond := lw_tbl.filter goodWord
theorem tb_in {w : Cond} (h : w ∈ tables_1) : w ∈ lw_tbl := by unfold lw_tbl; exact List.mem_append_right _ h
theorem tb1_in {w : Cond} (h : w ∈ tables_1_1) : w ∈ lw_tbl := tb_in (by unfold tables_1; exact List.mem_append_left _ h)
theorem tb2_in {w : Cond} (h : w ∈ tables_1_2) : w ∈ lw_tbl := tb_in (by unfold tables_1; exact List.mem_append_right _ (List.mem_append_left _ h))
theorem tb3_in {w : Cond} (h : w ∈ tables_1_3) : w ∈ lw_tbl := tb_in (by unfold tables_1; exact List.mem_append_right _ (List.mem_append_right _ h))
theorem tbs_in {w : Cond} (h : w ∈ k2_sels lw_privs) : w ∈ lw_tbl := by unfold lw_tbl; exact List.mem_append_left _ h
theorem wm_of {w : Cond} (h : w ∈ lw_tbl) (g : goodWord w = true) : w ∈ allw := List.mem_filter.mpr ⟨h, g⟩
theorem wm_1 {w : Cond} (i : Nat) (h : tables_1_1[i]? = some w) (g : goodWord w = true) : w ∈ allw := wm_of (tb1_in (List.mem_of_getElem? h)) g
theorem wm_2 {w : Cond} (i : Nat) (h : tables_1_2[i]? = some w) (g : goodWord w = true) : w ∈ allw := wm_of (tb2_in (List.mem_of_getElem? h)) g
theorem wm_3 {w : Cond} (i : Nat) (h : tables_1_3[i]? = some w) (g : goodWord w = true) : w ∈ allw := wm_of (tb3_in (List.mem_of_getElem? h)) g
theorem wm_s {w : Cond} (i : Nat) (h : (k2_sels lw_privs)[i]? = some w) (g : goodWord w = true) : w ∈ allw := wm_of (tbs_in (List.mem_of_getElem? h)) g
theorem al_good {w : Cond} (h : w ∈ allw) : (w.onTables && w.keeps) = true ∨ ∃ ty, w = .arrayClass ty := good_of_word (List.mem_filter.mp h).2
theorem gg_of {w : Cond} (h : w ∈ allw) : GoodIn allw (w :: allw) := fun w' hw => by
  have hw' : w' ∈ allw := (List.mem_cons.mp hw).elim (fun e => by rw [e]; exact h) id
  exact ⟨hw', al_good hw'⟩
theorem gw_of {own C : String} {idx : Nat} {y : MethodName} {ws : List Cond} (h1 : Cond.methodLink own idx y ∈ allw) (h2 : Cond.instanceMethod y ∈ allw) (h3 : Cond.selects C y y ∈ allw) (h4 : Cond.initialized C ∈ allw) (h5 : GoodIn allw ws) : GoodIn allw (wsV own idx C y ws) := fun w hw => by
  unfold wsV at hw
  rcases List.mem_append.mp hw with hw | hw
  · have hw' : w ∈ allw := by
      rcases List.mem_cons.mp hw with e | hw
      · rw [e]; exact h1
      · rcases List.mem_cons.mp hw with e | hw
        · rw [e]; exact h2
        · rcases List.mem_cons.mp hw with e | hw
          · rw [e]; exact h3
          · rcases List.mem_cons.mp hw with e | hw
            · rw [e]; exact h4
            · exact absurd hw List.not_mem_nil
    exact ⟨hw', al_good hw'⟩
  · exact h5 w hw
abbrev b_X_init : ByteArray := prog_1_method_1_code
def y_X_init : MethodName := ⟨R_X, "<init>", "()V"⟩
abbrev cw_X_init : Cond := .code y_X_init b_X_init 2 none
def w_X_init : List Cond := cw_X_init :: allw
theorem wm_co_X_init : cw_X_init ∈ allw := wm_1 14 rfl rfl
theorem gg_X_init : GoodIn allw w_X_init := gg_of wm_co_X_init
abbrev b_X_code : ByteArray := prog_1_method_2_code
def y_X_code : MethodName := ⟨R_X, "code", "(II)I"⟩
abbrev cw_X_code : Cond := .code y_X_code b_X_code 5 (some .int)
def w_X_code : List Cond := cw_X_code :: allw
theorem wm_co_X_code : cw_X_code ∈ allw := wm_1 218 rfl rfl
theorem gg_X_code : GoodIn allw w_X_code := gg_of wm_co_X_code
abbrev b_X_share : ByteArray := prog_1_method_3_code
def y_X_share : MethodName := ⟨R_X, "share", "(III)Z"⟩
abbrev cw_X_share : Cond := .code y_X_share b_X_share 5 (some .boolean)
def w_X_share : List Cond := cw_X_share :: allw
theorem wm_co_X_share : cw_X_share ∈ allw := wm_1 77 rfl rfl
theorem gg_X_share : GoodIn allw w_X_share := gg_of wm_co_X_share
abbrev b_X_rule : ByteArray := prog_1_method_4_code
def y_X_rule : MethodName := ⟨R_X, "rule", "(IIIZ)I"⟩
abbrev cw_X_rule : Cond := .code y_X_rule b_X_rule 7 (some .int)
def w_X_rule : List Cond := cw_X_rule :: allw
theorem wm_co_X_rule : cw_X_rule ∈ allw := wm_2 87 rfl rfl
theorem gg_X_rule : GoodIn allw w_X_rule := gg_of wm_co_X_rule
abbrev b_X_answer : ByteArray := prog_1_method_5_code
def y_X_answer : MethodName := ⟨R_X, "answer", "(II)I"⟩
abbrev cw_X_answer : Cond := .code y_X_answer b_X_answer 3 (some .int)
def w_X_answer : List Cond := cw_X_answer :: allw
theorem wm_co_X_answer : cw_X_answer ∈ allw := wm_2 96 rfl rfl
theorem gg_X_answer : GoodIn allw w_X_answer := gg_of wm_co_X_answer
abbrev b_X_question : ByteArray := prog_1_method_6_code
def y_X_question : MethodName := ⟨R_X, "question", "()I"⟩
abbrev cw_X_question : Cond := .code y_X_question b_X_question 7 (some .int)
def w_X_question : List Cond := cw_X_question :: allw
theorem wm_co_X_question : cw_X_question ∈ allw := wm_1 85 rfl rfl
theorem gg_X_question : GoodIn allw w_X_question := gg_of wm_co_X_question
abbrev b_X_needed : ByteArray := prog_1_method_7_code
def y_X_needed : MethodName := ⟨R_X, "needed", "()I"⟩
abbrev cw_X_needed : Cond := .code y_X_needed b_X_needed 1 (some .int)
def w_X_needed : List Cond := cw_X_needed :: allw
theorem wm_co_X_needed : cw_X_needed ∈ allw := wm_1 145 rfl rfl
theorem gg_X_needed : GoodIn allw w_X_needed := gg_of wm_co_X_needed
abbrev b_X_found : ByteArray := prog_1_method_8_code
def y_X_found : MethodName := ⟨R_X, "found", "()I"⟩
abbrev cw_X_found : Cond := .code y_X_found b_X_found 2 (some .int)
def w_X_found : List Cond := cw_X_found :: allw
theorem wm_co_X_found : cw_X_found ∈ allw := wm_1 149 rfl rfl
theorem gg_X_found : GoodIn allw w_X_found := gg_of wm_co_X_found
abbrev b_X_why : ByteArray := prog_1_method_9_code
def y_X_why : MethodName := ⟨R_X, "why", "()I"⟩
abbrev cw_X_why : Cond := .code y_X_why b_X_why 2 (some .int)
def w_X_why : List Cond := cw_X_why :: allw
theorem wm_co_X_why : cw_X_why ∈ allw := wm_1 184 rfl rfl
theorem gg_X_why : GoodIn allw w_X_why := gg_of wm_co_X_why
abbrev b_X_left : ByteArray := prog_1_method_10_code
def y_X_left : MethodName := ⟨R_X, "left", "(I)I"⟩
abbrev cw_X_left : Cond := .code y_X_left b_X_left 5 (some .int)
def w_X_left : List Cond := cw_X_left :: allw
theorem wm_co_X_left : cw_X_left ∈ allw := wm_1 188 rfl rfl
theorem gg_X_left : GoodIn allw w_X_left := gg_of wm_co_X_left
abbrev b_X_emptied : ByteArray := prog_1_method_11_code
def y_X_emptied : MethodName := ⟨R_X, "emptied", "()I"⟩
abbrev cw_X_emptied : Cond := .code y_X_emptied b_X_emptied 4 (some .int)
def w_X_emptied : List Cond := cw_X_emptied :: allw
theorem wm_co_X_emptied : cw_X_emptied ∈ allw := wm_1 192 rfl rfl
theorem gg_X_emptied : GoodIn allw w_X_emptied := gg_of wm_co_X_emptied
abbrev b_X_explain : ByteArray := prog_1_method_12_code
def y_X_explain : MethodName := ⟨R_X, "explain", "(I)I"⟩
abbrev cw_X_explain : Cond := .code y_X_explain b_X_explain 5 (some .int)
def w_X_explain : List Cond := cw_X_explain :: allw
theorem wm_co_X_explain : cw_X_explain ∈ allw := wm_2 112 rfl rfl
theorem gg_X_explain : GoodIn allw w_X_explain := gg_of wm_co_X_explain
abbrev b_X_precedent : ByteArray := prog_1_method_13_code
def y_X_precedent : MethodName := ⟨R_X, "precedent", "(IIIIII)I"⟩
abbrev cw_X_precedent : Cond := .code y_X_precedent b_X_precedent 8 (some .int)
def w_X_precedent : List Cond := cw_X_precedent :: allw
theorem wm_co_X_precedent : cw_X_precedent ∈ allw := wm_2 120 rfl rfl
theorem gg_X_precedent : GoodIn allw w_X_precedent := gg_of wm_co_X_precedent
abbrev b_X_contradicts : ByteArray := prog_1_method_14_code
def y_X_contradicts : MethodName := ⟨R_X, "contradicts", "()Z"⟩
abbrev cw_X_contradicts : Cond := .code y_X_contradicts b_X_contradicts 1 (some .boolean)
def w_X_contradicts : List Cond := cw_X_contradicts :: allw
theorem wm_co_X_contradicts : cw_X_contradicts ∈ allw := wm_1 196 rfl rfl
theorem gg_X_contradicts : GoodIn allw w_X_contradicts := gg_of wm_co_X_contradicts
abbrev b_X_day : ByteArray := prog_1_method_15_code
def y_X_day : MethodName := ⟨R_X, "day", "(I)Z"⟩
abbrev cw_X_day : Cond := .code y_X_day b_X_day 2 (some .boolean)
def w_X_day : List Cond := cw_X_day :: allw
theorem wm_co_X_day : cw_X_day ∈ allw := wm_1 200 rfl rfl
theorem gg_X_day : GoodIn allw w_X_day := gg_of wm_co_X_day
abbrev b_X_count : ByteArray := prog_1_method_16_code
def y_X_count : MethodName := ⟨R_X, "count", "(I)I"⟩
abbrev cw_X_count : Cond := .code y_X_count b_X_count 2 (some .int)
def w_X_count : List Cond := cw_X_count :: allw
theorem wm_co_X_count : cw_X_count ∈ allw := wm_1 205 rfl rfl
theorem gg_X_count : GoodIn allw w_X_count := gg_of wm_co_X_count
abbrev b_X_isNumber : ByteArray := prog_1_method_17_code
def y_X_isNumber : MethodName := ⟨R_X, "isNumber", "(I)Z"⟩
abbrev cw_X_isNumber : Cond := .code y_X_isNumber b_X_isNumber 1 (some .boolean)
def w_X_isNumber : List Cond := cw_X_isNumber :: allw
theorem wm_co_X_isNumber : cw_X_isNumber ∈ allw := wm_1 221 rfl rfl
theorem gg_X_isNumber : GoodIn allw w_X_isNumber := gg_of wm_co_X_isNumber
abbrev b_X_isQuestion : ByteArray := prog_1_method_18_code
def y_X_isQuestion : MethodName := ⟨R_X, "isQuestion", "(I)Z"⟩
abbrev cw_X_isQuestion : Cond := .code y_X_isQuestion b_X_isQuestion 1 (some .boolean)
def w_X_isQuestion : List Cond := cw_X_isQuestion :: allw
theorem wm_co_X_isQuestion : cw_X_isQuestion ∈ allw := wm_1 100 rfl rfl
theorem gg_X_isQuestion : GoodIn allw w_X_isQuestion := gg_of wm_co_X_isQuestion
abbrev b_X_isAnswer : ByteArray := prog_1_method_19_code
def y_X_isAnswer : MethodName := ⟨R_X, "isAnswer", "(I)Z"⟩
abbrev cw_X_isAnswer : Cond := .code y_X_isAnswer b_X_isAnswer 1 (some .boolean)
def w_X_isAnswer : List Cond := cw_X_isAnswer :: allw
theorem wm_co_X_isAnswer : cw_X_isAnswer ∈ allw := wm_1 103 rfl rfl
theorem gg_X_isAnswer : GoodIn allw w_X_isAnswer := gg_of wm_co_X_isAnswer
abbrev b_X_pairOf : ByteArray := prog_1_method_20_code
def y_X_pairOf : MethodName := ⟨R_X, "pairOf", "(II)I"⟩
abbrev cw_X_pairOf : Cond := .code y_X_pairOf b_X_pairOf 2 (some .int)
def w_X_pairOf : List Cond := cw_X_pairOf :: allw
theorem wm_co_X_pairOf : cw_X_pairOf ∈ allw := wm_1 106 rfl rfl
theorem gg_X_pairOf : GoodIn allw w_X_pairOf := gg_of wm_co_X_pairOf
abbrev b_X_contains : ByteArray := prog_1_method_21_code
def y_X_contains : MethodName := ⟨R_X, "contains", "(II)Z"⟩
abbrev cw_X_contains : Cond := .code y_X_contains b_X_contains 2 (some .boolean)
def w_X_contains : List Cond := cw_X_contains :: allw
theorem wm_co_X_contains : cw_X_contains ∈ allw := wm_1 123 rfl rfl
theorem gg_X_contains : GoodIn allw w_X_contains := gg_of wm_co_X_contains
abbrev b_X_everyCode : ByteArray := prog_1_method_22_code
def y_X_everyCode : MethodName := ⟨R_X, "everyCode", "()I"⟩
abbrev cw_X_everyCode : Cond := .code y_X_everyCode b_X_everyCode 1 (some .int)
def w_X_everyCode : List Cond := cw_X_everyCode :: allw
theorem wm_co_X_everyCode : cw_X_everyCode ∈ allw := wm_1 93 rfl rfl
theorem gg_X_everyCode : GoodIn allw w_X_everyCode := gg_of wm_co_X_everyCode
abbrev b_X_placeOf : ByteArray := prog_1_method_23_code
def y_X_placeOf : MethodName := ⟨R_X, "placeOf", "(I)I"⟩
abbrev cw_X_placeOf : Cond := .code y_X_placeOf b_X_placeOf 3 (some .int)
def w_X_placeOf : List Cond := cw_X_placeOf :: allw
theorem wm_co_X_placeOf : cw_X_placeOf ∈ allw := wm_1 81 rfl rfl
theorem gg_X_placeOf : GoodIn allw w_X_placeOf := gg_of wm_co_X_placeOf
abbrev b_X_howManyBelow : ByteArray := prog_1_method_24_code
def y_X_howManyBelow : MethodName := ⟨R_X, "howManyBelow", "(I)I"⟩
abbrev cw_X_howManyBelow : Cond := .code y_X_howManyBelow b_X_howManyBelow 3 (some .int)
def w_X_howManyBelow : List Cond := cw_X_howManyBelow :: allw
theorem wm_co_X_howManyBelow : cw_X_howManyBelow ∈ allw := wm_2 69 rfl rfl
theorem gg_X_howManyBelow : GoodIn allw w_X_howManyBelow := gg_of wm_co_X_howManyBelow
abbrev b_X_makeRoomAt : ByteArray := prog_1_method_25_code
def y_X_makeRoomAt : MethodName := ⟨R_X, "makeRoomAt", "(I)V"⟩
abbrev cw_X_makeRoomAt : Cond := .code y_X_makeRoomAt b_X_makeRoomAt 3 none
def w_X_makeRoomAt : List Cond := cw_X_makeRoomAt :: allw
theorem wm_co_X_makeRoomAt : cw_X_makeRoomAt ∈ allw := wm_2 73 rfl rfl
theorem gg_X_makeRoomAt : GoodIn allw w_X_makeRoomAt := gg_of wm_co_X_makeRoomAt
abbrev b_X_withRoomAt : ByteArray := prog_1_method_26_code
def y_X_withRoomAt : MethodName := ⟨R_X, "withRoomAt", "(II)I"⟩
abbrev cw_X_withRoomAt : Cond := .code y_X_withRoomAt b_X_withRoomAt 3 (some .int)
def w_X_withRoomAt : List Cond := cw_X_withRoomAt :: allw
theorem wm_co_X_withRoomAt : cw_X_withRoomAt ∈ allw := wm_2 76 rfl rfl
theorem gg_X_withRoomAt : GoodIn allw w_X_withRoomAt := gg_of wm_co_X_withRoomAt
abbrev b_X_answerTo : ByteArray := prog_1_method_27_code
def y_X_answerTo : MethodName := ⟨R_X, "answerTo", "(I)I"⟩
abbrev cw_X_answerTo : Cond := .code y_X_answerTo b_X_answerTo 2 (some .int)
def w_X_answerTo : List Cond := cw_X_answerTo :: allw
theorem wm_co_X_answerTo : cw_X_answerTo ∈ allw := wm_1 165 rfl rfl
theorem gg_X_answerTo : GoodIn allw w_X_answerTo := gg_of wm_co_X_answerTo
abbrev b_X_give : ByteArray := prog_1_method_28_code
def y_X_give : MethodName := ⟨R_X, "give", "(II)V"⟩
abbrev cw_X_give : Cond := .code y_X_give b_X_give 3 none
def w_X_give : List Cond := cw_X_give :: allw
theorem wm_co_X_give : cw_X_give ∈ allw := wm_2 105 rfl rfl
theorem gg_X_give : GoodIn allw w_X_give := gg_of wm_co_X_give
abbrev b_X_takeBack : ByteArray := prog_1_method_29_code
def y_X_takeBack : MethodName := ⟨R_X, "takeBack", "(I)V"⟩
abbrev cw_X_takeBack : Cond := .code y_X_takeBack b_X_takeBack 4 none
def w_X_takeBack : List Cond := cw_X_takeBack :: allw
theorem wm_co_X_takeBack : cw_X_takeBack ∈ allw := wm_2 101 rfl rfl
theorem gg_X_takeBack : GoodIn allw w_X_takeBack := gg_of wm_co_X_takeBack
abbrev b_X_leftByRules : ByteArray := prog_1_method_30_code
def y_X_leftByRules : MethodName := ⟨R_X, "leftByRules", "(I)I"⟩
abbrev cw_X_leftByRules : Cond := .code y_X_leftByRules b_X_leftByRules 3 (some .int)
def w_X_leftByRules : List Cond := cw_X_leftByRules :: allw
theorem wm_co_X_leftByRules : cw_X_leftByRules ∈ allw := wm_2 80 rfl rfl
theorem gg_X_leftByRules : GoodIn allw w_X_leftByRules := gg_of wm_co_X_leftByRules
abbrev b_X_leaves : ByteArray := prog_1_method_31_code
def y_X_leaves : MethodName := ⟨R_X, "leaves", "(II)I"⟩
abbrev cw_X_leaves : Cond := .code y_X_leaves b_X_leaves 3 (some .int)
def w_X_leaves : List Cond := cw_X_leaves :: allw
theorem wm_co_X_leaves : cw_X_leaves ∈ allw := wm_1 97 rfl rfl
theorem gg_X_leaves : GoodIn allw w_X_leaves := gg_of wm_co_X_leaves
abbrev b_X_leftSet : ByteArray := prog_1_method_32_code
def y_X_leftSet : MethodName := ⟨R_X, "leftSet", "()I"⟩
abbrev cw_X_leftSet : Cond := .code y_X_leftSet b_X_leftSet 3 (some .int)
def w_X_leftSet : List Cond := cw_X_leftSet :: allw
theorem wm_co_X_leftSet : cw_X_leftSet ∈ allw := wm_1 89 rfl rfl
theorem gg_X_leftSet : GoodIn allw w_X_leftSet := gg_of wm_co_X_leftSet
abbrev b_X_openQuestions : ByteArray := prog_1_method_33_code
def y_X_openQuestions : MethodName := ⟨R_X, "openQuestions", "()I"⟩
abbrev cw_X_openQuestions : Cond := .code y_X_openQuestions b_X_openQuestions 3 (some .int)
def w_X_openQuestions : List Cond := cw_X_openQuestions :: allw
theorem wm_co_X_openQuestions : cw_X_openQuestions ∈ allw := wm_1 110 rfl rfl
theorem gg_X_openQuestions : GoodIn allw w_X_openQuestions := gg_of wm_co_X_openQuestions
abbrev b_X_parts : ByteArray := prog_1_method_34_code
def y_X_parts : MethodName := ⟨R_X, "parts", "(II)Z"⟩
abbrev cw_X_parts : Cond := .code y_X_parts b_X_parts 6 (some .boolean)
def w_X_parts : List Cond := cw_X_parts :: allw
theorem wm_co_X_parts : cw_X_parts ∈ allw := wm_1 127 rfl rfl
theorem gg_X_parts : GoodIn allw w_X_parts := gg_of wm_co_X_parts
abbrev b_X_partingOf : ByteArray := prog_1_method_35_code
def y_X_partingOf : MethodName := ⟨R_X, "partingOf", "(II)I"⟩
abbrev cw_X_partingOf : Cond := .code y_X_partingOf b_X_partingOf 5 (some .int)
def w_X_partingOf : List Cond := cw_X_partingOf :: allw
theorem wm_co_X_partingOf : cw_X_partingOf ∈ allw := wm_1 114 rfl rfl
theorem gg_X_partingOf : GoodIn allw w_X_partingOf := gg_of wm_co_X_partingOf
abbrev b_X_neededFor : ByteArray := prog_1_method_36_code
def y_X_neededFor : MethodName := ⟨R_X, "neededFor", "(IIII)I"⟩
abbrev cw_X_neededFor : Cond := .code y_X_neededFor b_X_neededFor 8 (some .int)
def w_X_neededFor : List Cond := cw_X_neededFor :: allw
theorem wm_co_X_neededFor : cw_X_neededFor ∈ allw := wm_1 138 rfl rfl
theorem gg_X_neededFor : GoodIn allw w_X_neededFor := gg_of wm_co_X_neededFor
abbrev b_X_neededWith : ByteArray := prog_1_method_37_code
def y_X_neededWith : MethodName := ⟨R_X, "neededWith", "(IIII)I"⟩
abbrev cw_X_neededWith : Cond := .code y_X_neededWith b_X_neededWith 9 (some .int)
def w_X_neededWith : List Cond := cw_X_neededWith :: allw
theorem wm_co_X_neededWith : cw_X_neededWith ∈ allw := wm_1 131 rfl rfl
theorem gg_X_neededWith : GoodIn allw w_X_neededWith := gg_of wm_co_X_neededWith
abbrev b_X_mostSpecificOf : ByteArray := prog_1_method_38_code
def y_X_mostSpecificOf : MethodName := ⟨R_X, "mostSpecificOf", "(I)I"⟩
abbrev cw_X_mostSpecificOf : Cond := .code y_X_mostSpecificOf b_X_mostSpecificOf 5 (some .int)
def w_X_mostSpecificOf : List Cond := cw_X_mostSpecificOf :: allw
theorem wm_co_X_mostSpecificOf : cw_X_mostSpecificOf ∈ allw := wm_1 169 rfl rfl
theorem gg_X_mostSpecificOf : GoodIn allw w_X_mostSpecificOf := gg_of wm_co_X_mostSpecificOf
abbrev b_X_greatestShareOf : ByteArray := prog_1_method_39_code
def y_X_greatestShareOf : MethodName := ⟨R_X, "greatestShareOf", "(I)I"⟩
abbrev cw_X_greatestShareOf : Cond := .code y_X_greatestShareOf b_X_greatestShareOf 7 (some .int)
def w_X_greatestShareOf : List Cond := cw_X_greatestShareOf :: allw
theorem wm_co_X_greatestShareOf : cw_X_greatestShareOf ∈ allw := wm_1 173 rfl rfl
theorem gg_X_greatestShareOf : GoodIn allw w_X_greatestShareOf := gg_of wm_co_X_greatestShareOf
abbrev b_X_lastNumberOf : ByteArray := prog_1_method_40_code
def y_X_lastNumberOf : MethodName := ⟨R_X, "lastNumberOf", "(I)I"⟩
abbrev cw_X_lastNumberOf : Cond := .code y_X_lastNumberOf b_X_lastNumberOf 4 (some .int)
def w_X_lastNumberOf : List Cond := cw_X_lastNumberOf :: allw
theorem wm_co_X_lastNumberOf : cw_X_lastNumberOf ∈ allw := wm_1 180 rfl rfl
theorem gg_X_lastNumberOf : GoodIn allw w_X_lastNumberOf := gg_of wm_co_X_lastNumberOf
abbrev b_X_isGiven : ByteArray := prog_1_method_41_code
def y_X_isGiven : MethodName := ⟨R_X, "isGiven", "(I)Z"⟩
abbrev cw_X_isGiven : Cond := .code y_X_isGiven b_X_isGiven 2 (some .boolean)
def w_X_isGiven : List Cond := cw_X_isGiven :: allw
theorem wm_co_X_isGiven : cw_X_isGiven ∈ allw := wm_1 161 rfl rfl
theorem gg_X_isGiven : GoodIn allw w_X_isGiven := gg_of wm_co_X_isGiven
abbrev b_X_holds : ByteArray := prog_1_method_42_code
def y_X_holds : MethodName := ⟨R_X, "holds", "(I)Z"⟩
abbrev cw_X_holds : Cond := .code y_X_holds b_X_holds 2 (some .boolean)
def w_X_holds : List Cond := cw_X_holds :: allw
theorem wm_co_X_holds : cw_X_holds ∈ allw := wm_1 157 rfl rfl
theorem gg_X_holds : GoodIn allw w_X_holds := gg_of wm_co_X_holds
abbrev b_X_howManyHold : ByteArray := prog_1_method_43_code
def y_X_howManyHold : MethodName := ⟨R_X, "howManyHold", "()I"⟩
abbrev cw_X_howManyHold : Cond := .code y_X_howManyHold b_X_howManyHold 3 (some .int)
def w_X_howManyHold : List Cond := cw_X_howManyHold :: allw
theorem wm_co_X_howManyHold : cw_X_howManyHold ∈ allw := wm_1 209 rfl rfl
theorem gg_X_howManyHold : GoodIn allw w_X_howManyHold := gg_of wm_co_X_howManyHold
abbrev b_X_ruledCode : ByteArray := prog_1_method_44_code
def y_X_ruledCode : MethodName := ⟨R_X, "ruledCode", "()I"⟩
abbrev cw_X_ruledCode : Cond := .code y_X_ruledCode b_X_ruledCode 3 (some .int)
def w_X_ruledCode : List Cond := cw_X_ruledCode :: allw
theorem wm_co_X_ruledCode : cw_X_ruledCode ∈ allw := wm_1 153 rfl rfl
theorem gg_X_ruledCode : GoodIn allw w_X_ruledCode := gg_of wm_co_X_ruledCode
abbrev b_M_init : ByteArray := prog_3_method_1_code
def y_M_init : MethodName := ⟨R_M, "<init>", "()V"⟩
abbrev cw_M_init : Cond := .code y_M_init b_M_init 1 none
def w_M_init : List Cond := cw_M_init :: allw
theorem wm_co_M_init : cw_M_init ∈ allw := wm_2 127 rfl rfl
theorem gg_M_init : GoodIn allw w_M_init := gg_of wm_co_M_init
abbrev b_M_thrown : ByteArray := prog_3_method_2_code
def y_M_thrown : MethodName := ⟨R_M, "thrown", "()I"⟩
abbrev cw_M_thrown : Cond := .code y_M_thrown b_M_thrown 1 (some .int)
def w_M_thrown : List Cond := cw_M_thrown :: allw
theorem wm_co_M_thrown : cw_M_thrown ∈ allw := wm_2 215 rfl rfl
theorem gg_M_thrown : GoodIn allw w_M_thrown := gg_of wm_co_M_thrown
abbrev b_M_in : ByteArray := prog_3_method_3_code
def y_M_in : MethodName := ⟨R_M, "in", "(III)Z"⟩
abbrev cw_M_in : Cond := .code y_M_in b_M_in 3 (some .boolean)
def w_M_in : List Cond := cw_M_in :: allw
theorem wm_co_M_in : cw_M_in ∈ allw := wm_2 223 rfl rfl
theorem gg_M_in : GoodIn allw w_M_in := gg_of wm_co_M_in
abbrev b_M_find : ByteArray := prog_3_method_4_code
def y_M_find : MethodName := ⟨R_M, "find", "(I)I"⟩
abbrev cw_M_find : Cond := .code y_M_find b_M_find 4 (some .int)
def w_M_find : List Cond := cw_M_find :: allw
theorem wm_co_M_find : cw_M_find ∈ allw := wm_2 227 rfl rfl
theorem gg_M_find : GoodIn allw w_M_find := gg_of wm_co_M_find
abbrev b_M_code : ByteArray := prog_3_method_5_code
def y_M_code : MethodName := ⟨R_M, "code", "(II)I"⟩
abbrev cw_M_code : Cond := .code y_M_code b_M_code 4 (some .int)
def w_M_code : List Cond := cw_M_code :: allw
theorem wm_co_M_code : cw_M_code ∈ allw := wm_2 219 rfl rfl
theorem gg_M_code : GoodIn allw w_M_code := gg_of wm_co_M_code
abbrev b_M_share : ByteArray := prog_3_method_6_code
def y_M_share : MethodName := ⟨R_M, "share", "(III)Z"⟩
abbrev cw_M_share : Cond := .code y_M_share b_M_share 5 (some .boolean)
def w_M_share : List Cond := cw_M_share :: allw
theorem wm_co_M_share : cw_M_share ∈ allw := wm_2 231 rfl rfl
theorem gg_M_share : GoodIn allw w_M_share := gg_of wm_co_M_share
abbrev b_M_isPair : ByteArray := prog_3_method_7_code
def y_M_isPair : MethodName := ⟨R_M, "isPair", "(II)Z"⟩
abbrev cw_M_isPair : Cond := .code y_M_isPair b_M_isPair 2 (some .boolean)
def w_M_isPair : List Cond := cw_M_isPair :: allw
theorem wm_co_M_isPair : cw_M_isPair ∈ allw := wm_2 238 rfl rfl
theorem gg_M_isPair : GoodIn allw w_M_isPair := gg_of wm_co_M_isPair
abbrev b_M_rule : ByteArray := prog_3_method_8_code
def y_M_rule : MethodName := ⟨R_M, "rule", "(IIIZ)I"⟩
abbrev cw_M_rule : Cond := .code y_M_rule b_M_rule 6 (some .int)
def w_M_rule : List Cond := cw_M_rule :: allw
theorem wm_co_M_rule : cw_M_rule ∈ allw := wm_2 235 rfl rfl
theorem gg_M_rule : GoodIn allw w_M_rule := gg_of wm_co_M_rule
abbrev b_M_doesLeave : ByteArray := prog_3_method_9_code
def y_M_doesLeave : MethodName := ⟨R_M, "doesLeave", "(II)Z"⟩
abbrev cw_M_doesLeave : Cond := .code y_M_doesLeave b_M_doesLeave 7 (some .boolean)
def w_M_doesLeave : List Cond := cw_M_doesLeave :: allw
theorem wm_co_M_doesLeave : cw_M_doesLeave ∈ allw := wm_3 14 rfl rfl
theorem gg_M_doesLeave : GoodIn allw w_M_doesLeave := gg_of wm_co_M_doesLeave
abbrev b_M_isLeft : ByteArray := prog_3_method_10_code
def y_M_isLeft : MethodName := ⟨R_M, "isLeft", "(I)Z"⟩
abbrev cw_M_isLeft : Cond := .code y_M_isLeft b_M_isLeft 4 (some .boolean)
def w_M_isLeft : List Cond := cw_M_isLeft :: allw
theorem wm_co_M_isLeft : cw_M_isLeft ∈ allw := wm_3 10 rfl rfl
theorem gg_M_isLeft : GoodIn allw w_M_isLeft := gg_of wm_co_M_isLeft
abbrev b_M_leftMany : ByteArray := prog_3_method_11_code
def y_M_leftMany : MethodName := ⟨R_M, "leftMany", "()I"⟩
abbrev cw_M_leftMany : Cond := .code y_M_leftMany b_M_leftMany 3 (some .int)
def w_M_leftMany : List Cond := cw_M_leftMany :: allw
theorem wm_co_M_leftMany : cw_M_leftMany ∈ allw := wm_3 6 rfl rfl
theorem gg_M_leftMany : GoodIn allw w_M_leftMany := gg_of wm_co_M_leftMany
abbrev b_M_leftSet : ByteArray := prog_3_method_12_code
def y_M_leftSet : MethodName := ⟨R_M, "leftSet", "()I"⟩
abbrev cw_M_leftSet : Cond := .code y_M_leftSet b_M_leftSet 3 (some .int)
def w_M_leftSet : List Cond := cw_M_leftSet :: allw
theorem wm_co_M_leftSet : cw_M_leftSet ∈ allw := wm_3 26 rfl rfl
theorem gg_M_leftSet : GoodIn allw w_M_leftSet := gg_of wm_co_M_leftSet
abbrev b_M_answer : ByteArray := prog_3_method_13_code
def y_M_answer : MethodName := ⟨R_M, "answer", "(II)I"⟩
abbrev cw_M_answer : Cond := .code y_M_answer b_M_answer 3 (some .int)
def w_M_answer : List Cond := cw_M_answer :: allw
theorem wm_co_M_answer : cw_M_answer ∈ allw := wm_3 2 rfl rfl
theorem gg_M_answer : GoodIn allw w_M_answer := gg_of wm_co_M_answer
abbrev b_M_isTwo : ByteArray := prog_3_method_14_code
def y_M_isTwo : MethodName := ⟨R_M, "isTwo", "(I)Z"⟩
abbrev cw_M_isTwo : Cond := .code y_M_isTwo b_M_isTwo 1 (some .boolean)
def w_M_isTwo : List Cond := cw_M_isTwo :: allw
theorem wm_co_M_isTwo : cw_M_isTwo ∈ allw := wm_3 37 rfl rfl
theorem gg_M_isTwo : GoodIn allw w_M_isTwo := gg_of wm_co_M_isTwo
abbrev b_M_openSet : ByteArray := prog_3_method_15_code
def y_M_openSet : MethodName := ⟨R_M, "openSet", "()I"⟩
abbrev cw_M_openSet : Cond := .code y_M_openSet b_M_openSet 3 (some .int)
def w_M_openSet : List Cond := cw_M_openSet :: allw
theorem wm_co_M_openSet : cw_M_openSet ∈ allw := wm_3 30 rfl rfl
theorem gg_M_openSet : GoodIn allw w_M_openSet := gg_of wm_co_M_openSet
abbrev b_M_parts : ByteArray := prog_3_method_16_code
def y_M_parts : MethodName := ⟨R_M, "parts", "(II)Z"⟩
abbrev cw_M_parts : Cond := .code y_M_parts b_M_parts 5 (some .boolean)
def w_M_parts : List Cond := cw_M_parts :: allw
theorem wm_co_M_parts : cw_M_parts ∈ allw := wm_3 41 rfl rfl
theorem gg_M_parts : GoodIn allw w_M_parts := gg_of wm_co_M_parts
abbrev b_M_begin : ByteArray := prog_3_method_17_code
def y_M_begin : MethodName := ⟨R_M, "begin", "(III)V"⟩
abbrev cw_M_begin : Cond := .code y_M_begin b_M_begin 4 none
def w_M_begin : List Cond := cw_M_begin :: allw
theorem wm_co_M_begin : cw_M_begin ∈ allw := wm_3 34 rfl rfl
theorem gg_M_begin : GoodIn allw w_M_begin := gg_of wm_co_M_begin
abbrev b_M_turnTo : ByteArray := prog_3_method_18_code
def y_M_turnTo : MethodName := ⟨R_M, "turnTo", "(IZ)V"⟩
abbrev cw_M_turnTo : Cond := .code y_M_turnTo b_M_turnTo 4 none
def w_M_turnTo : List Cond := cw_M_turnTo :: allw
theorem wm_co_M_turnTo : cw_M_turnTo ∈ allw := wm_3 45 rfl rfl
theorem gg_M_turnTo : GoodIn allw w_M_turnTo := gg_of wm_co_M_turnTo
abbrev b_M_reckon : ByteArray := prog_3_method_19_code
def y_M_reckon : MethodName := ⟨R_M, "reckon", "()I"⟩
abbrev cw_M_reckon : Cond := .code y_M_reckon b_M_reckon 4 (some .int)
def w_M_reckon : List Cond := cw_M_reckon :: allw
theorem wm_co_M_reckon : cw_M_reckon ∈ allw := wm_3 22 rfl rfl
theorem gg_M_reckon : GoodIn allw w_M_reckon := gg_of wm_co_M_reckon
abbrev b_M_question : ByteArray := prog_3_method_20_code
def y_M_question : MethodName := ⟨R_M, "question", "()I"⟩
abbrev cw_M_question : Cond := .code y_M_question b_M_question 2 (some .int)
def w_M_question : List Cond := cw_M_question :: allw
theorem wm_co_M_question : cw_M_question ∈ allw := wm_3 18 rfl rfl
theorem gg_M_question : GoodIn allw w_M_question := gg_of wm_co_M_question
abbrev b_M_needed : ByteArray := prog_3_method_21_code
def y_M_needed : MethodName := ⟨R_M, "needed", "()I"⟩
abbrev cw_M_needed : Cond := .code y_M_needed b_M_needed 1 (some .int)
def w_M_needed : List Cond := cw_M_needed :: allw
theorem wm_co_M_needed : cw_M_needed ∈ allw := wm_3 49 rfl rfl
theorem gg_M_needed : GoodIn allw w_M_needed := gg_of wm_co_M_needed
abbrev b_M_isGiven : ByteArray := prog_3_method_22_code
def y_M_isGiven : MethodName := ⟨R_M, "isGiven", "(I)Z"⟩
abbrev cw_M_isGiven : Cond := .code y_M_isGiven b_M_isGiven 2 (some .boolean)
def w_M_isGiven : List Cond := cw_M_isGiven :: allw
theorem wm_co_M_isGiven : cw_M_isGiven ∈ allw := wm_3 65 rfl rfl
theorem gg_M_isGiven : GoodIn allw w_M_isGiven := gg_of wm_co_M_isGiven
abbrev b_M_holds : ByteArray := prog_3_method_23_code
def y_M_holds : MethodName := ⟨R_M, "holds", "(I)Z"⟩
abbrev cw_M_holds : Cond := .code y_M_holds b_M_holds 2 (some .boolean)
def w_M_holds : List Cond := cw_M_holds :: allw
theorem wm_co_M_holds : cw_M_holds ∈ allw := wm_3 61 rfl rfl
theorem gg_M_holds : GoodIn allw w_M_holds := gg_of wm_co_M_holds
abbrev b_M_ruled : ByteArray := prog_3_method_24_code
def y_M_ruled : MethodName := ⟨R_M, "ruled", "()I"⟩
abbrev cw_M_ruled : Cond := .code y_M_ruled b_M_ruled 3 (some .int)
def w_M_ruled : List Cond := cw_M_ruled :: allw
theorem wm_co_M_ruled : cw_M_ruled ∈ allw := wm_3 57 rfl rfl
theorem gg_M_ruled : GoodIn allw w_M_ruled := gg_of wm_co_M_ruled
abbrev b_M_ahead : ByteArray := prog_3_method_25_code
def y_M_ahead : MethodName := ⟨R_M, "ahead", "(II)I"⟩
abbrev cw_M_ahead : Cond := .code y_M_ahead b_M_ahead 4 (some .int)
def w_M_ahead : List Cond := cw_M_ahead :: allw
theorem wm_co_M_ahead : cw_M_ahead ∈ allw := wm_3 73 rfl rfl
theorem gg_M_ahead : GoodIn allw w_M_ahead := gg_of wm_co_M_ahead
abbrev b_M_bestLeft : ByteArray := prog_3_method_26_code
def y_M_bestLeft : MethodName := ⟨R_M, "bestLeft", "()I"⟩
abbrev cw_M_bestLeft : Cond := .code y_M_bestLeft b_M_bestLeft 3 (some .int)
def w_M_bestLeft : List Cond := cw_M_bestLeft :: allw
theorem wm_co_M_bestLeft : cw_M_bestLeft ∈ allw := wm_3 69 rfl rfl
theorem gg_M_bestLeft : GoodIn allw w_M_bestLeft := gg_of wm_co_M_bestLeft
abbrev b_M_found : ByteArray := prog_3_method_27_code
def y_M_found : MethodName := ⟨R_M, "found", "()I"⟩
abbrev cw_M_found : Cond := .code y_M_found b_M_found 2 (some .int)
def w_M_found : List Cond := cw_M_found :: allw
theorem wm_co_M_found : cw_M_found ∈ allw := wm_3 53 rfl rfl
theorem gg_M_found : GoodIn allw w_M_found := gg_of wm_co_M_found
abbrev b_M_why : ByteArray := prog_3_method_28_code
def y_M_why : MethodName := ⟨R_M, "why", "()I"⟩
abbrev cw_M_why : Cond := .code y_M_why b_M_why 4 (some .int)
def w_M_why : List Cond := cw_M_why :: allw
theorem wm_co_M_why : cw_M_why ∈ allw := wm_3 77 rfl rfl
theorem gg_M_why : GoodIn allw w_M_why := gg_of wm_co_M_why
abbrev b_M_left : ByteArray := prog_3_method_29_code
def y_M_left : MethodName := ⟨R_M, "left", "(I)I"⟩
abbrev cw_M_left : Cond := .code y_M_left b_M_left 4 (some .int)
def w_M_left : List Cond := cw_M_left :: allw
theorem wm_co_M_left : cw_M_left ∈ allw := wm_3 81 rfl rfl
theorem gg_M_left : GoodIn allw w_M_left := gg_of wm_co_M_left
abbrev b_M_isLeftBy : ByteArray := prog_3_method_30_code
def y_M_isLeftBy : MethodName := ⟨R_M, "isLeftBy", "(II)Z"⟩
abbrev cw_M_isLeftBy : Cond := .code y_M_isLeftBy b_M_isLeftBy 5 (some .boolean)
def w_M_isLeftBy : List Cond := cw_M_isLeftBy :: allw
theorem wm_co_M_isLeftBy : cw_M_isLeftBy ∈ allw := wm_3 89 rfl rfl
theorem gg_M_isLeftBy : GoodIn allw w_M_isLeftBy := gg_of wm_co_M_isLeftBy
abbrev b_M_emptied : ByteArray := prog_3_method_31_code
def y_M_emptied : MethodName := ⟨R_M, "emptied", "()I"⟩
abbrev cw_M_emptied : Cond := .code y_M_emptied b_M_emptied 5 (some .int)
def w_M_emptied : List Cond := cw_M_emptied :: allw
theorem wm_co_M_emptied : cw_M_emptied ∈ allw := wm_3 85 rfl rfl
theorem gg_M_emptied : GoodIn allw w_M_emptied := gg_of wm_co_M_emptied
abbrev b_M_explain : ByteArray := prog_3_method_32_code
def y_M_explain : MethodName := ⟨R_M, "explain", "(I)I"⟩
abbrev cw_M_explain : Cond := .code y_M_explain b_M_explain 6 (some .int)
def w_M_explain : List Cond := cw_M_explain :: allw
theorem wm_co_M_explain : cw_M_explain ∈ allw := wm_3 93 rfl rfl
theorem gg_M_explain : GoodIn allw w_M_explain := gg_of wm_co_M_explain
abbrev b_M_precedent : ByteArray := prog_3_method_33_code
def y_M_precedent : MethodName := ⟨R_M, "precedent", "(IIIIII)I"⟩
abbrev cw_M_precedent : Cond := .code y_M_precedent b_M_precedent 8 (some .int)
def w_M_precedent : List Cond := cw_M_precedent :: allw
theorem wm_co_M_precedent : cw_M_precedent ∈ allw := wm_3 97 rfl rfl
theorem gg_M_precedent : GoodIn allw w_M_precedent := gg_of wm_co_M_precedent
abbrev b_M_contradicts : ByteArray := prog_3_method_34_code
def y_M_contradicts : MethodName := ⟨R_M, "contradicts", "()Z"⟩
abbrev cw_M_contradicts : Cond := .code y_M_contradicts b_M_contradicts 1 (some .boolean)
def w_M_contradicts : List Cond := cw_M_contradicts :: allw
theorem wm_co_M_contradicts : cw_M_contradicts ∈ allw := wm_3 102 rfl rfl
theorem gg_M_contradicts : GoodIn allw w_M_contradicts := gg_of wm_co_M_contradicts
abbrev b_M_day : ByteArray := prog_3_method_35_code
def y_M_day : MethodName := ⟨R_M, "day", "(I)Z"⟩
abbrev cw_M_day : Cond := .code y_M_day b_M_day 2 (some .boolean)
def w_M_day : List Cond := cw_M_day :: allw
theorem wm_co_M_day : cw_M_day ∈ allw := wm_3 106 rfl rfl
theorem gg_M_day : GoodIn allw w_M_day := gg_of wm_co_M_day
abbrev b_M_count : ByteArray := prog_3_method_36_code
def y_M_count : MethodName := ⟨R_M, "count", "(I)I"⟩
abbrev cw_M_count : Cond := .code y_M_count b_M_count 5 (some .int)
def w_M_count : List Cond := cw_M_count :: allw
theorem wm_co_M_count : cw_M_count ∈ allw := wm_3 110 rfl rfl
theorem gg_M_count : GoodIn allw w_M_count := gg_of wm_co_M_count
abbrev b_Int_bitCount : ByteArray := prog_7_method_49_code
def y_Int_bitCount : MethodName := ⟨R_Int, "bitCount", "(I)I"⟩
abbrev cw_Int_bitCount : Cond := .code y_Int_bitCount b_Int_bitCount 1 (some .int)
def w_Int_bitCount : List Cond := cw_Int_bitCount :: allw
theorem wm_co_Int_bitCount : cw_Int_bitCount ∈ allw := wm_1 117 rfl rfl
theorem gg_Int_bitCount : GoodIn allw w_Int_bitCount := gg_of wm_co_Int_bitCount
abbrev b_Int_compare : ByteArray := prog_7_method_40_code
def y_Int_compare : MethodName := ⟨R_Int, "compare", "(II)I"⟩
abbrev cw_Int_compare : Cond := .code y_Int_compare b_Int_compare 2 (some .int)
def w_Int_compare : List Cond := cw_Int_compare :: allw
theorem wm_co_Int_compare : cw_Int_compare ∈ allw := wm_1 176 rfl rfl
theorem gg_Int_compare : GoodIn allw w_Int_compare := gg_of wm_co_Int_compare
abbrev b_L_code : ByteArray := method_3_code
def y_L_code : MethodName := ⟨R_L, "code", "(LClassifyRules;II[J)I"⟩
abbrev hh_L_code : List (Nat × Nat × Nat × Nat) := [(0, 10, 13, 13), (0, 10, 17, 15)]
abbrev cw_L_code : Cond := .codeWith y_L_code b_L_code 5 (some .int) hh_L_code
def w_L_code : List Cond := cw_L_code :: allw
theorem wm_co_L_code : cw_L_code ∈ allw := wm_1 212 rfl rfl
theorem gg_L_code : GoodIn allw w_L_code := gg_of wm_co_L_code
abbrev b_L_rule : ByteArray := method_4_code
def y_L_rule : MethodName := ⟨R_L, "rule", "(LClassifyRules;IIIZ[J)I"⟩
abbrev hh_L_rule : List (Nat × Nat × Nat × Nat) := [(0, 14, 17, 13), (0, 14, 21, 15)]
abbrev cw_L_rule : Cond := .codeWith y_L_rule b_L_rule 7 (some .int) hh_L_rule
def w_L_rule : List Cond := cw_L_rule :: allw
theorem wm_co_L_rule : cw_L_rule ∈ allw := wm_2 83 rfl rfl
theorem gg_L_rule : GoodIn allw w_L_rule := gg_of wm_co_L_rule
abbrev b_L_answer : ByteArray := method_5_code
def y_L_answer : MethodName := ⟨R_L, "answer", "(LClassifyRules;II[J)I"⟩
abbrev hh_L_answer : List (Nat × Nat × Nat × Nat) := [(0, 10, 13, 13)]
abbrev cw_L_answer : Cond := .codeWith y_L_answer b_L_answer 5 (some .int) hh_L_answer
def w_L_answer : List Cond := cw_L_answer :: allw
theorem wm_co_L_answer : cw_L_answer ∈ allw := wm_2 92 rfl rfl
theorem gg_L_answer : GoodIn allw w_L_answer := gg_of wm_co_L_answer
abbrev b_L_explain : ByteArray := method_6_code
def y_L_explain : MethodName := ⟨R_L, "explain", "(LClassifyRules;I[J)I"⟩
abbrev hh_L_explain : List (Nat × Nat × Nat × Nat) := [(0, 9, 12, 13)]
abbrev cw_L_explain : Cond := .codeWith y_L_explain b_L_explain 4 (some .int) hh_L_explain
def w_L_explain : List Cond := cw_L_explain :: allw
theorem wm_co_L_explain : cw_L_explain ∈ allw := wm_2 108 rfl rfl
theorem gg_L_explain : GoodIn allw w_L_explain := gg_of wm_co_L_explain
abbrev b_L_precedent : ByteArray := method_7_code
def y_L_precedent : MethodName := ⟨R_L, "precedent", "(LClassifyRules;IIIIII[J)I"⟩
abbrev hh_L_precedent : List (Nat × Nat × Nat × Nat) := [(0, 18, 21, 13), (0, 18, 25, 15)]
abbrev cw_L_precedent : Cond := .codeWith y_L_precedent b_L_precedent 9 (some .int) hh_L_precedent
def w_L_precedent : List Cond := cw_L_precedent :: allw
theorem wm_co_L_precedent : cw_L_precedent ∈ allw := wm_2 116 rfl rfl
theorem gg_L_precedent : GoodIn allw w_L_precedent := gg_of wm_co_L_precedent
abbrev b_L_law : ByteArray := code
theorem wm_in_L : Cond.initialized R_L ∈ allw := wm_1 0 rfl rfl
theorem wm_in_X : Cond.initialized R_X ∈ allw := wm_1 1 rfl rfl
theorem wm_in_M : Cond.initialized R_M ∈ allw := wm_1 2 rfl rfl
theorem wm_in_Throwable : Cond.initialized "java/lang/Throwable" ∈ allw := wm_1 3 rfl rfl
theorem wm_in_Exception : Cond.initialized "java/lang/Exception" ∈ allw := wm_1 4 rfl rfl
theorem wm_in_RuntimeException : Cond.initialized "java/lang/RuntimeException" ∈ allw := wm_1 5 rfl rfl
theorem wm_in_IllegalArgumentException : Cond.initialized "java/lang/IllegalArgumentException" ∈ allw := wm_1 6 rfl rfl
theorem wm_in_IllegalStateException : Cond.initialized "java/lang/IllegalStateException" ∈ allw := wm_1 7 rfl rfl
theorem wm_in_Int : Cond.initialized R_Int ∈ allw := wm_1 8 rfl rfl
theorem wm_in_Math : Cond.initialized "java/lang/Math" ∈ allw := wm_1 9 rfl rfl
theorem wm_L_classLink_8 : Cond.classLink R_L 8 R_X ∈ allw := wm_1 10 rfl rfl
theorem wm_ib_X : Cond.instantiable R_X 18 ∈ allw := wm_1 11 rfl rfl
theorem wm_L_methodLink_32 : Cond.methodLink R_L 32 y_X_init ∈ allw := wm_1 12 rfl rfl
theorem wm_im_X_init : Cond.instanceMethod y_X_init ∈ allw := wm_1 13 rfl rfl
theorem wm_X_methodLink_1 : Cond.methodLink R_X 1 objectInit ∈ allw := wm_1 15 rfl rfl
theorem wm_im_Obj_init : Cond.instanceMethod objectInit ∈ allw := wm_1 16 rfl rfl
theorem wm_co_Obj_init : Cond.code objectInit ⟨#[0xb1]⟩ 1 none ∈ allw := wm_1 17 rfl rfl
theorem wm_X_fieldLink_60 : Cond.fieldLink R_X 60 "ClassifyRules" "codes" "I" ∈ allw := wm_1 18 rfl rfl
theorem wm_X_fieldLink_9 : Cond.fieldLink R_X 9 "ClassifyRules" "number" "[I" ∈ allw := wm_1 19 rfl rfl
theorem wm_X_fieldLink_13 : Cond.fieldLink R_X 13 "ClassifyRules" "specificity" "[I" ∈ allw := wm_1 20 rfl rfl
theorem wm_X_fieldLink_16 : Cond.fieldLink R_X 16 "ClassifyRules" "shareUp" "[I" ∈ allw := wm_1 21 rfl rfl
theorem wm_X_fieldLink_19 : Cond.fieldLink R_X 19 "ClassifyRules" "shareDown" "[I" ∈ allw := wm_1 22 rfl rfl
theorem wm_X_fieldLink_91 : Cond.fieldLink R_X 91 "ClassifyRules" "rules" "I" ∈ allw := wm_1 23 rfl rfl
theorem wm_X_fieldLink_22 : Cond.fieldLink R_X 22 "ClassifyRules" "keptWith" "[I" ∈ allw := wm_1 24 rfl rfl
theorem wm_X_fieldLink_25 : Cond.fieldLink R_X 25 "ClassifyRules" "fallingWith" "[I" ∈ allw := wm_1 25 rfl rfl
theorem wm_X_fieldLink_28 : Cond.fieldLink R_X 28 "ClassifyRules" "leftWith" "[I" ∈ allw := wm_1 26 rfl rfl
theorem wm_X_fieldLink_150 : Cond.fieldLink R_X 150 "ClassifyRules" "answers" "I" ∈ allw := wm_1 27 rfl rfl
theorem wm_X_fieldLink_31 : Cond.fieldLink R_X 31 "ClassifyRules" "given" "[I" ∈ allw := wm_1 28 rfl rfl
theorem wm_X_fieldLink_34 : Cond.fieldLink R_X 34 "ClassifyRules" "order" "[I" ∈ allw := wm_1 29 rfl rfl
theorem wm_X_fieldLink_164 : Cond.fieldLink R_X 164 "ClassifyRules" "precedents" "I" ∈ allw := wm_1 30 rfl rfl
theorem wm_X_fieldLink_37 : Cond.fieldLink R_X 37 "ClassifyRules" "precedentCode" "[I" ∈ allw := wm_1 31 rfl rfl
theorem wm_X_fieldLink_40 : Cond.fieldLink R_X 40 "ClassifyRules" "precedentFirst" "[I" ∈ allw := wm_1 32 rfl rfl
theorem wm_X_fieldLink_43 : Cond.fieldLink R_X 43 "ClassifyRules" "precedentSecond" "[I" ∈ allw := wm_1 33 rfl rfl
theorem wm_X_fieldLink_46 : Cond.fieldLink R_X 46 "ClassifyRules" "precedentUntil" "[I" ∈ allw := wm_1 34 rfl rfl
theorem wm_X_fieldLink_169 : Cond.fieldLink R_X 169 "ClassifyRules" "today" "I" ∈ allw := wm_1 35 rfl rfl
theorem wm_ac_int : Cond.arrayClass .int ∈ allw := wm_1 73 rfl rfl
theorem wm_L_methodLink_46 : Cond.methodLink R_L 46 y_X_share ∈ allw := wm_1 74 rfl rfl
theorem wm_im_X_share : Cond.instanceMethod y_X_share ∈ allw := wm_1 75 rfl rfl
theorem wm_se_X_share : Cond.selects R_X y_X_share y_X_share ∈ allw := wm_1 76 rfl rfl
theorem wm_X_methodLink_69 : Cond.methodLink R_X 69 y_X_placeOf ∈ allw := wm_1 78 rfl rfl
theorem wm_im_X_placeOf : Cond.instanceMethod y_X_placeOf ∈ allw := wm_1 80 rfl rfl
theorem wm_L_methodLink_58 : Cond.methodLink R_L 58 y_X_question ∈ allw := wm_1 82 rfl rfl
theorem wm_im_X_question : Cond.instanceMethod y_X_question ∈ allw := wm_1 83 rfl rfl
theorem wm_se_X_question : Cond.selects R_X y_X_question y_X_question ∈ allw := wm_1 84 rfl rfl
theorem wm_X_methodLink_113 : Cond.methodLink R_X 113 y_X_leftSet ∈ allw := wm_1 86 rfl rfl
theorem wm_im_X_leftSet : Cond.instanceMethod y_X_leftSet ∈ allw := wm_1 88 rfl rfl
theorem wm_X_methodLink_147 : Cond.methodLink R_X 147 y_X_everyCode ∈ allw := wm_1 90 rfl rfl
theorem wm_im_X_everyCode : Cond.instanceMethod y_X_everyCode ∈ allw := wm_1 92 rfl rfl
theorem wm_X_methodLink_156 : Cond.methodLink R_X 156 y_X_leaves ∈ allw := wm_1 94 rfl rfl
theorem wm_im_X_leaves : Cond.instanceMethod y_X_leaves ∈ allw := wm_1 96 rfl rfl
theorem wm_X_methodLink_83 : Cond.methodLink R_X 83 y_X_isQuestion ∈ allw := wm_1 98 rfl rfl
theorem wm_st_X_isQuestion : Cond.static y_X_isQuestion ∈ allw := wm_1 99 rfl rfl
theorem wm_X_methodLink_86 : Cond.methodLink R_X 86 y_X_isAnswer ∈ allw := wm_1 101 rfl rfl
theorem wm_st_X_isAnswer : Cond.static y_X_isAnswer ∈ allw := wm_1 102 rfl rfl
theorem wm_X_methodLink_96 : Cond.methodLink R_X 96 y_X_pairOf ∈ allw := wm_1 104 rfl rfl
theorem wm_st_X_pairOf : Cond.static y_X_pairOf ∈ allw := wm_1 105 rfl rfl
theorem wm_X_methodLink_122 : Cond.methodLink R_X 122 y_X_openQuestions ∈ allw := wm_1 107 rfl rfl
theorem wm_im_X_openQuestions : Cond.instanceMethod y_X_openQuestions ∈ allw := wm_1 109 rfl rfl
theorem wm_X_methodLink_125 : Cond.methodLink R_X 125 y_X_partingOf ∈ allw := wm_1 111 rfl rfl
theorem wm_im_X_partingOf : Cond.instanceMethod y_X_partingOf ∈ allw := wm_1 113 rfl rfl
theorem wm_X_methodLink_117 : Cond.methodLink R_X 117 y_Int_bitCount ∈ allw := wm_1 115 rfl rfl
theorem wm_st_Int_bitCount : Cond.static y_Int_bitCount ∈ allw := wm_1 116 rfl rfl
theorem wm_Int_constant_265 : Cond.constant R_Int 265 1431655765 ∈ allw := wm_1 118 rfl rfl
theorem wm_Int_constant_266 : Cond.constant R_Int 266 858993459 ∈ allw := wm_1 119 rfl rfl
theorem wm_Int_constant_267 : Cond.constant R_Int 267 252645135 ∈ allw := wm_1 120 rfl rfl
theorem wm_X_methodLink_100 : Cond.methodLink R_X 100 y_X_contains ∈ allw := wm_1 121 rfl rfl
theorem wm_st_X_contains : Cond.static y_X_contains ∈ allw := wm_1 122 rfl rfl
theorem wm_X_methodLink_179 : Cond.methodLink R_X 179 y_X_parts ∈ allw := wm_1 124 rfl rfl
theorem wm_im_X_parts : Cond.instanceMethod y_X_parts ∈ allw := wm_1 126 rfl rfl
theorem wm_X_methodLink_128 : Cond.methodLink R_X 128 y_X_neededWith ∈ allw := wm_1 128 rfl rfl
theorem wm_im_X_neededWith : Cond.instanceMethod y_X_neededWith ∈ allw := wm_1 130 rfl rfl
theorem wm_X_methodLink_187 : Cond.methodLink R_X 187 Lib.Math.max.name ∈ allw := wm_1 132 rfl rfl
theorem wm_st_max : Cond.static Lib.Math.max.name ∈ allw := wm_1 133 rfl rfl
theorem wm_co_max : Cond.code Lib.Math.max.name Lib.Math.max.code 2 (some .int) ∈ allw := wm_1 134 rfl rfl
theorem wm_X_methodLink_132 : Cond.methodLink R_X 132 y_X_neededFor ∈ allw := wm_1 135 rfl rfl
theorem wm_im_X_neededFor : Cond.instanceMethod y_X_neededFor ∈ allw := wm_1 137 rfl rfl
theorem wm_X_methodLink_182 : Cond.methodLink R_X 182 Lib.Math.min.name ∈ allw := wm_1 139 rfl rfl
theorem wm_st_min : Cond.static Lib.Math.min.name ∈ allw := wm_1 140 rfl rfl
theorem wm_co_min : Cond.code Lib.Math.min.name Lib.Math.min.code 2 (some .int) ∈ allw := wm_1 141 rfl rfl
theorem wm_L_methodLink_62 : Cond.methodLink R_L 62 y_X_needed ∈ allw := wm_1 142 rfl rfl
theorem wm_im_X_needed : Cond.instanceMethod y_X_needed ∈ allw := wm_1 143 rfl rfl
theorem wm_se_X_needed : Cond.selects R_X y_X_needed y_X_needed ∈ allw := wm_1 144 rfl rfl
theorem wm_L_methodLink_66 : Cond.methodLink R_L 66 y_X_found ∈ allw := wm_1 146 rfl rfl
theorem wm_im_X_found : Cond.instanceMethod y_X_found ∈ allw := wm_1 147 rfl rfl
theorem wm_se_X_found : Cond.selects R_X y_X_found y_X_found ∈ allw := wm_1 148 rfl rfl
theorem wm_X_methodLink_135 : Cond.methodLink R_X 135 y_X_ruledCode ∈ allw := wm_1 150 rfl rfl
theorem wm_im_X_ruledCode : Cond.instanceMethod y_X_ruledCode ∈ allw := wm_1 152 rfl rfl
theorem wm_X_methodLink_196 : Cond.methodLink R_X 196 y_X_holds ∈ allw := wm_1 154 rfl rfl
theorem wm_im_X_holds : Cond.instanceMethod y_X_holds ∈ allw := wm_1 156 rfl rfl
theorem wm_X_methodLink_193 : Cond.methodLink R_X 193 y_X_isGiven ∈ allw := wm_1 158 rfl rfl
theorem wm_im_X_isGiven : Cond.instanceMethod y_X_isGiven ∈ allw := wm_1 160 rfl rfl
theorem wm_X_methodLink_153 : Cond.methodLink R_X 153 y_X_answerTo ∈ allw := wm_1 162 rfl rfl
theorem wm_im_X_answerTo : Cond.instanceMethod y_X_answerTo ∈ allw := wm_1 164 rfl rfl
theorem wm_X_methodLink_138 : Cond.methodLink R_X 138 y_X_mostSpecificOf ∈ allw := wm_1 166 rfl rfl
theorem wm_im_X_mostSpecificOf : Cond.instanceMethod y_X_mostSpecificOf ∈ allw := wm_1 168 rfl rfl
theorem wm_X_methodLink_141 : Cond.methodLink R_X 141 y_X_greatestShareOf ∈ allw := wm_1 170 rfl rfl
theorem wm_im_X_greatestShareOf : Cond.instanceMethod y_X_greatestShareOf ∈ allw := wm_1 172 rfl rfl
theorem wm_X_methodLink_190 : Cond.methodLink R_X 190 y_Int_compare ∈ allw := wm_1 174 rfl rfl
theorem wm_st_Int_compare : Cond.static y_Int_compare ∈ allw := wm_1 175 rfl rfl
theorem wm_X_methodLink_144 : Cond.methodLink R_X 144 y_X_lastNumberOf ∈ allw := wm_1 177 rfl rfl
theorem wm_im_X_lastNumberOf : Cond.instanceMethod y_X_lastNumberOf ∈ allw := wm_1 179 rfl rfl
theorem wm_L_methodLink_70 : Cond.methodLink R_L 70 y_X_why ∈ allw := wm_1 181 rfl rfl
theorem wm_im_X_why : Cond.instanceMethod y_X_why ∈ allw := wm_1 182 rfl rfl
theorem wm_se_X_why : Cond.selects R_X y_X_why y_X_why ∈ allw := wm_1 183 rfl rfl
theorem wm_L_methodLink_74 : Cond.methodLink R_L 74 y_X_left ∈ allw := wm_1 185 rfl rfl
theorem wm_im_X_left : Cond.instanceMethod y_X_left ∈ allw := wm_1 186 rfl rfl
theorem wm_se_X_left : Cond.selects R_X y_X_left y_X_left ∈ allw := wm_1 187 rfl rfl
theorem wm_L_methodLink_78 : Cond.methodLink R_L 78 y_X_emptied ∈ allw := wm_1 189 rfl rfl
theorem wm_im_X_emptied : Cond.instanceMethod y_X_emptied ∈ allw := wm_1 190 rfl rfl
theorem wm_se_X_emptied : Cond.selects R_X y_X_emptied y_X_emptied ∈ allw := wm_1 191 rfl rfl
theorem wm_L_methodLink_90 : Cond.methodLink R_L 90 y_X_contradicts ∈ allw := wm_1 193 rfl rfl
theorem wm_im_X_contradicts : Cond.instanceMethod y_X_contradicts ∈ allw := wm_1 194 rfl rfl
theorem wm_se_X_contradicts : Cond.selects R_X y_X_contradicts y_X_contradicts ∈ allw := wm_1 195 rfl rfl
theorem wm_L_methodLink_95 : Cond.methodLink R_L 95 y_X_day ∈ allw := wm_1 197 rfl rfl
theorem wm_im_X_day : Cond.instanceMethod y_X_day ∈ allw := wm_1 198 rfl rfl
theorem wm_se_X_day : Cond.selects R_X y_X_day y_X_day ∈ allw := wm_1 199 rfl rfl
theorem wm_X_constant_161 : Cond.constant R_X 161 100000 ∈ allw := wm_1 201 rfl rfl
theorem wm_L_methodLink_100 : Cond.methodLink R_L 100 y_X_count ∈ allw := wm_1 202 rfl rfl
theorem wm_im_X_count : Cond.instanceMethod y_X_count ∈ allw := wm_1 203 rfl rfl
theorem wm_se_X_count : Cond.selects R_X y_X_count y_X_count ∈ allw := wm_1 204 rfl rfl
theorem wm_X_methodLink_172 : Cond.methodLink R_X 172 y_X_howManyHold ∈ allw := wm_1 206 rfl rfl
theorem wm_im_X_howManyHold : Cond.instanceMethod y_X_howManyHold ∈ allw := wm_1 208 rfl rfl
theorem wm_L_methodLink_36 : Cond.methodLink R_L 36 y_L_code ∈ allw := wm_1 210 rfl rfl
theorem wm_st_L_code : Cond.static y_L_code ∈ allw := wm_1 211 rfl rfl
theorem wm_L_classLink_13 : Cond.classLink R_L 13 "java/lang/IllegalArgumentException" ∈ allw := wm_1 213 rfl rfl
theorem wm_L_classLink_15 : Cond.classLink R_L 15 "java/lang/IllegalStateException" ∈ allw := wm_1 214 rfl rfl
theorem wm_L_methodLink_7 : Cond.methodLink R_L 7 y_X_code ∈ allw := wm_1 215 rfl rfl
theorem wm_im_X_code : Cond.instanceMethod y_X_code ∈ allw := wm_1 216 rfl rfl
theorem wm_se_X_code : Cond.selects R_X y_X_code y_X_code ∈ allw := wm_1 217 rfl rfl
theorem wm_X_methodLink_49 : Cond.methodLink R_X 49 y_X_isNumber ∈ allw := wm_1 219 rfl rfl
theorem wm_st_X_isNumber : Cond.static y_X_isNumber ∈ allw := wm_1 220 rfl rfl
theorem wm_X_constant_175 : Cond.constant R_X 175 999999 ∈ allw := wm_1 222 rfl rfl
theorem wm_X_classLink_53 : Cond.classLink R_X 53 "java/lang/IllegalArgumentException" ∈ allw := wm_1 223 rfl rfl
theorem wm_X_methodLink_57 : Cond.methodLink R_X 57 ⟨"java/lang/IllegalArgumentException", "<init>", "(Ljava/lang/String;)V"⟩ ∈ allw := wm_2 24 rfl rfl
theorem wm_ac_byte : Cond.arrayClass .byte ∈ allw := wm_2 49 rfl rfl
theorem wm_X_classLink_64 : Cond.classLink R_X 64 "java/lang/IllegalStateException" ∈ allw := wm_2 50 rfl rfl
theorem wm_X_methodLink_68 : Cond.methodLink R_X 68 ⟨"java/lang/IllegalStateException", "<init>", "(Ljava/lang/String;)V"⟩ ∈ allw := wm_2 60 rfl rfl
theorem wm_X_methodLink_73 : Cond.methodLink R_X 73 y_X_howManyBelow ∈ allw := wm_2 66 rfl rfl
theorem wm_im_X_howManyBelow : Cond.instanceMethod y_X_howManyBelow ∈ allw := wm_2 68 rfl rfl
theorem wm_X_methodLink_76 : Cond.methodLink R_X 76 y_X_makeRoomAt ∈ allw := wm_2 70 rfl rfl
theorem wm_im_X_makeRoomAt : Cond.instanceMethod y_X_makeRoomAt ∈ allw := wm_2 72 rfl rfl
theorem wm_X_methodLink_176 : Cond.methodLink R_X 176 y_X_withRoomAt ∈ allw := wm_2 74 rfl rfl
theorem wm_st_X_withRoomAt : Cond.static y_X_withRoomAt ∈ allw := wm_2 75 rfl rfl
theorem wm_X_methodLink_80 : Cond.methodLink R_X 80 y_X_leftByRules ∈ allw := wm_2 77 rfl rfl
theorem wm_im_X_leftByRules : Cond.instanceMethod y_X_leftByRules ∈ allw := wm_2 79 rfl rfl
theorem wm_L_methodLink_51 : Cond.methodLink R_L 51 y_L_rule ∈ allw := wm_2 81 rfl rfl
theorem wm_st_L_rule : Cond.static y_L_rule ∈ allw := wm_2 82 rfl rfl
theorem wm_L_methodLink_17 : Cond.methodLink R_L 17 y_X_rule ∈ allw := wm_2 84 rfl rfl
theorem wm_im_X_rule : Cond.instanceMethod y_X_rule ∈ allw := wm_2 85 rfl rfl
theorem wm_se_X_rule : Cond.selects R_X y_X_rule y_X_rule ∈ allw := wm_2 86 rfl rfl
theorem wm_L_methodLink_55 : Cond.methodLink R_L 55 y_L_answer ∈ allw := wm_2 90 rfl rfl
theorem wm_st_L_answer : Cond.static y_L_answer ∈ allw := wm_2 91 rfl rfl
theorem wm_L_methodLink_21 : Cond.methodLink R_L 21 y_X_answer ∈ allw := wm_2 93 rfl rfl
theorem wm_im_X_answer : Cond.instanceMethod y_X_answer ∈ allw := wm_2 94 rfl rfl
theorem wm_se_X_answer : Cond.selects R_X y_X_answer y_X_answer ∈ allw := wm_2 95 rfl rfl
theorem wm_X_methodLink_106 : Cond.methodLink R_X 106 y_X_takeBack ∈ allw := wm_2 98 rfl rfl
theorem wm_im_X_takeBack : Cond.instanceMethod y_X_takeBack ∈ allw := wm_2 100 rfl rfl
theorem wm_X_methodLink_109 : Cond.methodLink R_X 109 y_X_give ∈ allw := wm_2 102 rfl rfl
theorem wm_im_X_give : Cond.instanceMethod y_X_give ∈ allw := wm_2 104 rfl rfl
theorem wm_L_methodLink_82 : Cond.methodLink R_L 82 y_L_explain ∈ allw := wm_2 106 rfl rfl
theorem wm_st_L_explain : Cond.static y_L_explain ∈ allw := wm_2 107 rfl rfl
theorem wm_L_methodLink_24 : Cond.methodLink R_L 24 y_X_explain ∈ allw := wm_2 109 rfl rfl
theorem wm_im_X_explain : Cond.instanceMethod y_X_explain ∈ allw := wm_2 110 rfl rfl
theorem wm_se_X_explain : Cond.selects R_X y_X_explain y_X_explain ∈ allw := wm_2 111 rfl rfl
theorem wm_L_methodLink_86 : Cond.methodLink R_L 86 y_L_precedent ∈ allw := wm_2 114 rfl rfl
theorem wm_st_L_precedent : Cond.static y_L_precedent ∈ allw := wm_2 115 rfl rfl
theorem wm_L_methodLink_28 : Cond.methodLink R_L 28 y_X_precedent ∈ allw := wm_2 117 rfl rfl
theorem wm_im_X_precedent : Cond.instanceMethod y_X_precedent ∈ allw := wm_2 118 rfl rfl
theorem wm_se_X_precedent : Cond.selects R_X y_X_precedent y_X_precedent ∈ allw := wm_2 119 rfl rfl
theorem wm_L_classLink_33 : Cond.classLink R_L 33 R_M ∈ allw := wm_2 123 rfl rfl
theorem wm_ib_M : Cond.instantiable R_M 27 ∈ allw := wm_2 124 rfl rfl
theorem wm_L_methodLink_35 : Cond.methodLink R_L 35 y_M_init ∈ allw := wm_2 125 rfl rfl
theorem wm_im_M_init : Cond.instanceMethod y_M_init ∈ allw := wm_2 126 rfl rfl
theorem wm_M_methodLink_1 : Cond.methodLink R_M 1 objectInit ∈ allw := wm_2 128 rfl rfl
theorem wm_M_fieldLink_71 : Cond.fieldLink R_M 71 "ClassifyRulesModel" "thrown" "I" ∈ allw := wm_2 129 rfl rfl
theorem wm_M_fieldLink_75 : Cond.fieldLink R_M 75 "ClassifyRulesModel" "codes" "I" ∈ allw := wm_2 130 rfl rfl
theorem wm_M_fieldLink_91 : Cond.fieldLink R_M 91 "ClassifyRulesModel" "rules" "I" ∈ allw := wm_2 131 rfl rfl
theorem wm_M_fieldLink_140 : Cond.fieldLink R_M 140 "ClassifyRulesModel" "precedents" "I" ∈ allw := wm_2 132 rfl rfl
theorem wm_M_fieldLink_134 : Cond.fieldLink R_M 134 "ClassifyRulesModel" "today" "I" ∈ allw := wm_2 133 rfl rfl
theorem wm_M_fieldLink_101 : Cond.fieldLink R_M 101 "ClassifyRulesModel" "turns" "I" ∈ allw := wm_2 134 rfl rfl
theorem wm_M_fieldLink_7 : Cond.fieldLink R_M 7 "ClassifyRulesModel" "numberOf" "[I" ∈ allw := wm_2 135 rfl rfl
theorem wm_M_fieldLink_13 : Cond.fieldLink R_M 13 "ClassifyRulesModel" "specificOf" "[I" ∈ allw := wm_2 136 rfl rfl
theorem wm_M_fieldLink_16 : Cond.fieldLink R_M 16 "ClassifyRulesModel" "upOf" "[I" ∈ allw := wm_2 137 rfl rfl
theorem wm_M_fieldLink_19 : Cond.fieldLink R_M 19 "ClassifyRulesModel" "downOf" "[I" ∈ allw := wm_2 138 rfl rfl
theorem wm_M_fieldLink_22 : Cond.fieldLink R_M 22 "ClassifyRulesModel" "ruleAt" "[I" ∈ allw := wm_2 139 rfl rfl
theorem wm_M_fieldLink_25 : Cond.fieldLink R_M 25 "ClassifyRulesModel" "ruleCode" "[I" ∈ allw := wm_2 140 rfl rfl
theorem wm_M_fieldLink_28 : Cond.fieldLink R_M 28 "ClassifyRulesModel" "ruleKeeps" "[Z" ∈ allw := wm_2 141 rfl rfl
theorem wm_M_fieldLink_32 : Cond.fieldLink R_M 32 "ClassifyRulesModel" "given" "[I" ∈ allw := wm_2 142 rfl rfl
theorem wm_M_fieldLink_35 : Cond.fieldLink R_M 35 "ClassifyRulesModel" "turn" "[I" ∈ allw := wm_2 143 rfl rfl
theorem wm_M_fieldLink_38 : Cond.fieldLink R_M 38 "ClassifyRulesModel" "precedentCode" "[I" ∈ allw := wm_2 144 rfl rfl
theorem wm_M_fieldLink_41 : Cond.fieldLink R_M 41 "ClassifyRulesModel" "precedentFirst" "[I" ∈ allw := wm_2 145 rfl rfl
theorem wm_M_fieldLink_44 : Cond.fieldLink R_M 44 "ClassifyRulesModel" "precedentSecond" "[I" ∈ allw := wm_2 146 rfl rfl
theorem wm_M_fieldLink_47 : Cond.fieldLink R_M 47 "ClassifyRulesModel" "precedentUntil" "[I" ∈ allw := wm_2 147 rfl rfl
theorem wm_M_fieldLink_50 : Cond.fieldLink R_M 50 "ClassifyRulesModel" "leaves" "[I" ∈ allw := wm_2 148 rfl rfl
theorem wm_M_fieldLink_53 : Cond.fieldLink R_M 53 "ClassifyRulesModel" "wayLeft" "[I" ∈ allw := wm_2 149 rfl rfl
theorem wm_M_fieldLink_56 : Cond.fieldLink R_M 56 "ClassifyRulesModel" "wayOpen" "[I" ∈ allw := wm_2 150 rfl rfl
theorem wm_M_fieldLink_59 : Cond.fieldLink R_M 59 "ClassifyRulesModel" "wayQuestion" "[I" ∈ allw := wm_2 151 rfl rfl
theorem wm_M_fieldLink_62 : Cond.fieldLink R_M 62 "ClassifyRulesModel" "wayAnswer" "[I" ∈ allw := wm_2 152 rfl rfl
theorem wm_M_fieldLink_65 : Cond.fieldLink R_M 65 "ClassifyRulesModel" "wayMost" "[I" ∈ allw := wm_2 153 rfl rfl
theorem wm_M_fieldLink_68 : Cond.fieldLink R_M 68 "ClassifyRulesModel" "wayBest" "[I" ∈ allw := wm_2 154 rfl rfl
theorem wm_M_fieldLink_111 : Cond.fieldLink R_M 111 "ClassifyRulesModel" "wayFirst" "I" ∈ allw := wm_2 155 rfl rfl
theorem wm_ac_boolean : Cond.arrayClass .boolean ∈ allw := wm_2 211 rfl rfl
theorem wm_L_methodLink_42 : Cond.methodLink R_L 42 y_M_thrown ∈ allw := wm_2 212 rfl rfl
theorem wm_im_M_thrown : Cond.instanceMethod y_M_thrown ∈ allw := wm_2 213 rfl rfl
theorem wm_se_M_thrown : Cond.selects R_M y_M_thrown y_M_thrown ∈ allw := wm_2 214 rfl rfl
theorem wm_L_methodLink_41 : Cond.methodLink R_L 41 y_M_code ∈ allw := wm_2 216 rfl rfl
theorem wm_im_M_code : Cond.instanceMethod y_M_code ∈ allw := wm_2 217 rfl rfl
theorem wm_se_M_code : Cond.selects R_M y_M_code y_M_code ∈ allw := wm_2 218 rfl rfl
theorem wm_M_constant_78 : Cond.constant R_M 78 999999 ∈ allw := wm_2 220 rfl rfl
theorem wm_M_methodLink_79 : Cond.methodLink R_M 79 y_M_in ∈ allw := wm_2 221 rfl rfl
theorem wm_st_M_in : Cond.static y_M_in ∈ allw := wm_2 222 rfl rfl
theorem wm_M_methodLink_83 : Cond.methodLink R_M 83 y_M_find ∈ allw := wm_2 224 rfl rfl
theorem wm_im_M_find : Cond.instanceMethod y_M_find ∈ allw := wm_2 226 rfl rfl
theorem wm_L_methodLink_50 : Cond.methodLink R_L 50 y_M_share ∈ allw := wm_2 228 rfl rfl
theorem wm_im_M_share : Cond.instanceMethod y_M_share ∈ allw := wm_2 229 rfl rfl
theorem wm_se_M_share : Cond.selects R_M y_M_share y_M_share ∈ allw := wm_2 230 rfl rfl
theorem wm_L_methodLink_54 : Cond.methodLink R_L 54 y_M_rule ∈ allw := wm_2 232 rfl rfl
theorem wm_im_M_rule : Cond.instanceMethod y_M_rule ∈ allw := wm_2 233 rfl rfl
theorem wm_se_M_rule : Cond.selects R_M y_M_rule y_M_rule ∈ allw := wm_2 234 rfl rfl
theorem wm_M_methodLink_87 : Cond.methodLink R_M 87 y_M_isPair ∈ allw := wm_2 236 rfl rfl
theorem wm_st_M_isPair : Cond.static y_M_isPair ∈ allw := wm_2 237 rfl rfl
theorem wm_L_methodLink_57 : Cond.methodLink R_L 57 y_M_answer ∈ allw := wm_2 239 rfl rfl
theorem wm_im_M_answer : Cond.instanceMethod y_M_answer ∈ allw := wm_3 0 rfl rfl
theorem wm_se_M_answer : Cond.selects R_M y_M_answer y_M_answer ∈ allw := wm_3 1 rfl rfl
theorem wm_M_methodLink_104 : Cond.methodLink R_M 104 y_M_leftMany ∈ allw := wm_3 3 rfl rfl
theorem wm_im_M_leftMany : Cond.instanceMethod y_M_leftMany ∈ allw := wm_3 5 rfl rfl
theorem wm_M_methodLink_97 : Cond.methodLink R_M 97 y_M_isLeft ∈ allw := wm_3 7 rfl rfl
theorem wm_im_M_isLeft : Cond.instanceMethod y_M_isLeft ∈ allw := wm_3 9 rfl rfl
theorem wm_M_methodLink_94 : Cond.methodLink R_M 94 y_M_doesLeave ∈ allw := wm_3 11 rfl rfl
theorem wm_im_M_doesLeave : Cond.instanceMethod y_M_doesLeave ∈ allw := wm_3 13 rfl rfl
theorem wm_L_methodLink_61 : Cond.methodLink R_L 61 y_M_question ∈ allw := wm_3 15 rfl rfl
theorem wm_im_M_question : Cond.instanceMethod y_M_question ∈ allw := wm_3 16 rfl rfl
theorem wm_se_M_question : Cond.selects R_M y_M_question y_M_question ∈ allw := wm_3 17 rfl rfl
theorem wm_M_methodLink_131 : Cond.methodLink R_M 131 y_M_reckon ∈ allw := wm_3 19 rfl rfl
theorem wm_im_M_reckon : Cond.instanceMethod y_M_reckon ∈ allw := wm_3 21 rfl rfl
theorem wm_M_methodLink_114 : Cond.methodLink R_M 114 y_M_leftSet ∈ allw := wm_3 23 rfl rfl
theorem wm_im_M_leftSet : Cond.instanceMethod y_M_leftSet ∈ allw := wm_3 25 rfl rfl
theorem wm_M_methodLink_117 : Cond.methodLink R_M 117 y_M_openSet ∈ allw := wm_3 27 rfl rfl
theorem wm_im_M_openSet : Cond.instanceMethod y_M_openSet ∈ allw := wm_3 29 rfl rfl
theorem wm_M_methodLink_120 : Cond.methodLink R_M 120 y_M_begin ∈ allw := wm_3 31 rfl rfl
theorem wm_im_M_begin : Cond.instanceMethod y_M_begin ∈ allw := wm_3 33 rfl rfl
theorem wm_M_methodLink_108 : Cond.methodLink R_M 108 y_M_isTwo ∈ allw := wm_3 35 rfl rfl
theorem wm_st_M_isTwo : Cond.static y_M_isTwo ∈ allw := wm_3 36 rfl rfl
theorem wm_M_methodLink_124 : Cond.methodLink R_M 124 y_M_parts ∈ allw := wm_3 38 rfl rfl
theorem wm_im_M_parts : Cond.instanceMethod y_M_parts ∈ allw := wm_3 40 rfl rfl
theorem wm_M_methodLink_127 : Cond.methodLink R_M 127 y_M_turnTo ∈ allw := wm_3 42 rfl rfl
theorem wm_im_M_turnTo : Cond.instanceMethod y_M_turnTo ∈ allw := wm_3 44 rfl rfl
theorem wm_L_methodLink_65 : Cond.methodLink R_L 65 y_M_needed ∈ allw := wm_3 46 rfl rfl
theorem wm_im_M_needed : Cond.instanceMethod y_M_needed ∈ allw := wm_3 47 rfl rfl
theorem wm_se_M_needed : Cond.selects R_M y_M_needed y_M_needed ∈ allw := wm_3 48 rfl rfl
theorem wm_L_methodLink_69 : Cond.methodLink R_L 69 y_M_found ∈ allw := wm_3 50 rfl rfl
theorem wm_im_M_found : Cond.instanceMethod y_M_found ∈ allw := wm_3 51 rfl rfl
theorem wm_se_M_found : Cond.selects R_M y_M_found y_M_found ∈ allw := wm_3 52 rfl rfl
theorem wm_M_methodLink_150 : Cond.methodLink R_M 150 y_M_ruled ∈ allw := wm_3 54 rfl rfl
theorem wm_im_M_ruled : Cond.instanceMethod y_M_ruled ∈ allw := wm_3 56 rfl rfl
theorem wm_M_methodLink_143 : Cond.methodLink R_M 143 y_M_holds ∈ allw := wm_3 58 rfl rfl
theorem wm_im_M_holds : Cond.instanceMethod y_M_holds ∈ allw := wm_3 60 rfl rfl
theorem wm_M_methodLink_137 : Cond.methodLink R_M 137 y_M_isGiven ∈ allw := wm_3 62 rfl rfl
theorem wm_im_M_isGiven : Cond.instanceMethod y_M_isGiven ∈ allw := wm_3 64 rfl rfl
theorem wm_M_methodLink_153 : Cond.methodLink R_M 153 y_M_bestLeft ∈ allw := wm_3 66 rfl rfl
theorem wm_im_M_bestLeft : Cond.instanceMethod y_M_bestLeft ∈ allw := wm_3 68 rfl rfl
theorem wm_M_methodLink_146 : Cond.methodLink R_M 146 y_M_ahead ∈ allw := wm_3 70 rfl rfl
theorem wm_im_M_ahead : Cond.instanceMethod y_M_ahead ∈ allw := wm_3 72 rfl rfl
theorem wm_L_methodLink_73 : Cond.methodLink R_L 73 y_M_why ∈ allw := wm_3 74 rfl rfl
theorem wm_im_M_why : Cond.instanceMethod y_M_why ∈ allw := wm_3 75 rfl rfl
theorem wm_se_M_why : Cond.selects R_M y_M_why y_M_why ∈ allw := wm_3 76 rfl rfl
theorem wm_L_methodLink_77 : Cond.methodLink R_L 77 y_M_left ∈ allw := wm_3 78 rfl rfl
theorem wm_im_M_left : Cond.instanceMethod y_M_left ∈ allw := wm_3 79 rfl rfl
theorem wm_se_M_left : Cond.selects R_M y_M_left y_M_left ∈ allw := wm_3 80 rfl rfl
theorem wm_L_methodLink_81 : Cond.methodLink R_L 81 y_M_emptied ∈ allw := wm_3 82 rfl rfl
theorem wm_im_M_emptied : Cond.instanceMethod y_M_emptied ∈ allw := wm_3 83 rfl rfl
theorem wm_se_M_emptied : Cond.selects R_M y_M_emptied y_M_emptied ∈ allw := wm_3 84 rfl rfl
theorem wm_M_methodLink_156 : Cond.methodLink R_M 156 y_M_isLeftBy ∈ allw := wm_3 86 rfl rfl
theorem wm_im_M_isLeftBy : Cond.instanceMethod y_M_isLeftBy ∈ allw := wm_3 88 rfl rfl
theorem wm_L_methodLink_85 : Cond.methodLink R_L 85 y_M_explain ∈ allw := wm_3 90 rfl rfl
theorem wm_im_M_explain : Cond.instanceMethod y_M_explain ∈ allw := wm_3 91 rfl rfl
theorem wm_se_M_explain : Cond.selects R_M y_M_explain y_M_explain ∈ allw := wm_3 92 rfl rfl
theorem wm_L_methodLink_89 : Cond.methodLink R_L 89 y_M_precedent ∈ allw := wm_3 94 rfl rfl
theorem wm_im_M_precedent : Cond.instanceMethod y_M_precedent ∈ allw := wm_3 95 rfl rfl
theorem wm_se_M_precedent : Cond.selects R_M y_M_precedent y_M_precedent ∈ allw := wm_3 96 rfl rfl
theorem wm_M_constant_159 : Cond.constant R_M 159 100000 ∈ allw := wm_3 98 rfl rfl
theorem wm_L_methodLink_94 : Cond.methodLink R_L 94 y_M_contradicts ∈ allw := wm_3 99 rfl rfl
theorem wm_im_M_contradicts : Cond.instanceMethod y_M_contradicts ∈ allw := wm_3 100 rfl rfl
theorem wm_se_M_contradicts : Cond.selects R_M y_M_contradicts y_M_contradicts ∈ allw := wm_3 101 rfl rfl
theorem wm_L_methodLink_99 : Cond.methodLink R_L 99 y_M_day ∈ allw := wm_3 103 rfl rfl
theorem wm_im_M_day : Cond.instanceMethod y_M_day ∈ allw := wm_3 104 rfl rfl
theorem wm_se_M_day : Cond.selects R_M y_M_day y_M_day ∈ allw := wm_3 105 rfl rfl
theorem wm_L_methodLink_103 : Cond.methodLink R_L 103 y_M_count ∈ allw := wm_3 107 rfl rfl
theorem wm_im_M_count : Cond.instanceMethod y_M_count ∈ allw := wm_3 108 rfl rfl
theorem wm_se_M_count : Cond.selects R_M y_M_count y_M_count ∈ allw := wm_3 109 rfl rfl
theorem wm_ac_long : Cond.arrayClass .long ∈ allw := wm_3 111 rfl rfl
theorem wm_se_X_placeOf : Cond.selects R_X y_X_placeOf y_X_placeOf ∈ allw := wm_s 0 rfl rfl
theorem wm_se_X_leftSet : Cond.selects R_X y_X_leftSet y_X_leftSet ∈ allw := wm_s 1 rfl rfl
theorem wm_se_X_everyCode : Cond.selects R_X y_X_everyCode y_X_everyCode ∈ allw := wm_s 2 rfl rfl
theorem wm_se_X_leaves : Cond.selects R_X y_X_leaves y_X_leaves ∈ allw := wm_s 3 rfl rfl
theorem wm_se_X_openQuestions : Cond.selects R_X y_X_openQuestions y_X_openQuestions ∈ allw := wm_s 4 rfl rfl
theorem wm_se_X_partingOf : Cond.selects R_X y_X_partingOf y_X_partingOf ∈ allw := wm_s 5 rfl rfl
theorem wm_se_X_parts : Cond.selects R_X y_X_parts y_X_parts ∈ allw := wm_s 6 rfl rfl
theorem wm_se_X_neededWith : Cond.selects R_X y_X_neededWith y_X_neededWith ∈ allw := wm_s 7 rfl rfl
theorem wm_se_X_neededFor : Cond.selects R_X y_X_neededFor y_X_neededFor ∈ allw := wm_s 8 rfl rfl
theorem wm_se_X_ruledCode : Cond.selects R_X y_X_ruledCode y_X_ruledCode ∈ allw := wm_s 9 rfl rfl
theorem wm_se_X_holds : Cond.selects R_X y_X_holds y_X_holds ∈ allw := wm_s 10 rfl rfl
theorem wm_se_X_isGiven : Cond.selects R_X y_X_isGiven y_X_isGiven ∈ allw := wm_s 11 rfl rfl
theorem wm_se_X_answerTo : Cond.selects R_X y_X_answerTo y_X_answerTo ∈ allw := wm_s 12 rfl rfl
theorem wm_se_X_mostSpecificOf : Cond.selects R_X y_X_mostSpecificOf y_X_mostSpecificOf ∈ allw := wm_s 13 rfl rfl
theorem wm_se_X_greatestShareOf : Cond.selects R_X y_X_greatestShareOf y_X_greatestShareOf ∈ allw := wm_s 14 rfl rfl
theorem wm_se_X_lastNumberOf : Cond.selects R_X y_X_lastNumberOf y_X_lastNumberOf ∈ allw := wm_s 15 rfl rfl
theorem wm_se_X_howManyHold : Cond.selects R_X y_X_howManyHold y_X_howManyHold ∈ allw := wm_s 16 rfl rfl
theorem wm_se_X_howManyBelow : Cond.selects R_X y_X_howManyBelow y_X_howManyBelow ∈ allw := wm_s 18 rfl rfl
theorem wm_se_X_makeRoomAt : Cond.selects R_X y_X_makeRoomAt y_X_makeRoomAt ∈ allw := wm_s 19 rfl rfl
theorem wm_se_X_leftByRules : Cond.selects R_X y_X_leftByRules y_X_leftByRules ∈ allw := wm_s 20 rfl rfl
theorem wm_se_X_takeBack : Cond.selects R_X y_X_takeBack y_X_takeBack ∈ allw := wm_s 21 rfl rfl
theorem wm_se_X_give : Cond.selects R_X y_X_give y_X_give ∈ allw := wm_s 22 rfl rfl
theorem wm_se_M_find : Cond.selects R_M y_M_find y_M_find ∈ allw := wm_s 23 rfl rfl
theorem wm_se_M_leftMany : Cond.selects R_M y_M_leftMany y_M_leftMany ∈ allw := wm_s 24 rfl rfl
theorem wm_se_M_isLeft : Cond.selects R_M y_M_isLeft y_M_isLeft ∈ allw := wm_s 25 rfl rfl
theorem wm_se_M_doesLeave : Cond.selects R_M y_M_doesLeave y_M_doesLeave ∈ allw := wm_s 26 rfl rfl
theorem wm_se_M_reckon : Cond.selects R_M y_M_reckon y_M_reckon ∈ allw := wm_s 27 rfl rfl
theorem wm_se_M_leftSet : Cond.selects R_M y_M_leftSet y_M_leftSet ∈ allw := wm_s 28 rfl rfl
theorem wm_se_M_openSet : Cond.selects R_M y_M_openSet y_M_openSet ∈ allw := wm_s 29 rfl rfl
theorem wm_se_M_begin : Cond.selects R_M y_M_begin y_M_begin ∈ allw := wm_s 30 rfl rfl
theorem wm_se_M_parts : Cond.selects R_M y_M_parts y_M_parts ∈ allw := wm_s 31 rfl rfl
theorem wm_se_M_turnTo : Cond.selects R_M y_M_turnTo y_M_turnTo ∈ allw := wm_s 32 rfl rfl
theorem wm_se_M_ruled : Cond.selects R_M y_M_ruled y_M_ruled ∈ allw := wm_s 33 rfl rfl
theorem wm_se_M_holds : Cond.selects R_M y_M_holds y_M_holds ∈ allw := wm_s 34 rfl rfl
theorem wm_se_M_isGiven : Cond.selects R_M y_M_isGiven y_M_isGiven ∈ allw := wm_s 35 rfl rfl
theorem wm_se_M_bestLeft : Cond.selects R_M y_M_bestLeft y_M_bestLeft ∈ allw := wm_s 36 rfl rfl
theorem wm_se_M_ahead : Cond.selects R_M y_M_ahead y_M_ahead ∈ allw := wm_s 37 rfl rfl
theorem wm_se_M_isLeftBy : Cond.selects R_M y_M_isLeftBy y_M_isLeftBy ∈ allw := wm_s 38 rfl rfl
theorem iw_X : ∀ w ∈ u_ws R_X F_X 18, w ∈ allw := by decide +kernel
theorem iw_M : ∀ w ∈ u_ws R_M F_M 27, w ∈ allw := by decide +kernel
theorem gw_L_7 : GoodIn allw (wsV R_L 7 R_X y_X_code w_X_code) := gw_of wm_L_methodLink_7 wm_im_X_code wm_se_X_code wm_in_X gg_X_code
theorem gw_L_17 : GoodIn allw (wsV R_L 17 R_X y_X_rule w_X_rule) := gw_of wm_L_methodLink_17 wm_im_X_rule wm_se_X_rule wm_in_X gg_X_rule
theorem gw_L_21 : GoodIn allw (wsV R_L 21 R_X y_X_answer w_X_answer) := gw_of wm_L_methodLink_21 wm_im_X_answer wm_se_X_answer wm_in_X gg_X_answer
theorem gw_L_24 : GoodIn allw (wsV R_L 24 R_X y_X_explain w_X_explain) := gw_of wm_L_methodLink_24 wm_im_X_explain wm_se_X_explain wm_in_X gg_X_explain
theorem gw_L_28 : GoodIn allw (wsV R_L 28 R_X y_X_precedent w_X_precedent) := gw_of wm_L_methodLink_28 wm_im_X_precedent wm_se_X_precedent wm_in_X gg_X_precedent
theorem gw_L_41 : GoodIn allw (wsV R_L 41 R_M y_M_code w_M_code) := gw_of wm_L_methodLink_41 wm_im_M_code wm_se_M_code wm_in_M gg_M_code
theorem gw_L_42 : GoodIn allw (wsV R_L 42 R_M y_M_thrown w_M_thrown) := gw_of wm_L_methodLink_42 wm_im_M_thrown wm_se_M_thrown wm_in_M gg_M_thrown
theorem gw_L_46 : GoodIn allw (wsV R_L 46 R_X y_X_share w_X_share) := gw_of wm_L_methodLink_46 wm_im_X_share wm_se_X_share wm_in_X gg_X_share
theorem gw_L_50 : GoodIn allw (wsV R_L 50 R_M y_M_share w_M_share) := gw_of wm_L_methodLink_50 wm_im_M_share wm_se_M_share wm_in_M gg_M_share
theorem gw_L_54 : GoodIn allw (wsV R_L 54 R_M y_M_rule w_M_rule) := gw_of wm_L_methodLink_54 wm_im_M_rule wm_se_M_rule wm_in_M gg_M_rule
theorem gw_L_57 : GoodIn allw (wsV R_L 57 R_M y_M_answer w_M_answer) := gw_of wm_L_methodLink_57 wm_im_M_answer wm_se_M_answer wm_in_M gg_M_answer
theorem gw_L_58 : GoodIn allw (wsV R_L 58 R_X y_X_question w_X_question) := gw_of wm_L_methodLink_58 wm_im_X_question wm_se_X_question wm_in_X gg_X_question
theorem gw_L_61 : GoodIn allw (wsV R_L 61 R_M y_M_question w_M_question) := gw_of wm_L_methodLink_61 wm_im_M_question wm_se_M_question wm_in_M gg_M_question
theorem gw_L_62 : GoodIn allw (wsV R_L 62 R_X y_X_needed w_X_needed) := gw_of wm_L_methodLink_62 wm_im_X_needed wm_se_X_needed wm_in_X gg_X_needed
theorem gw_L_65 : GoodIn allw (wsV R_L 65 R_M y_M_needed w_M_needed) := gw_of wm_L_methodLink_65 wm_im_M_needed wm_se_M_needed wm_in_M gg_M_needed
theorem gw_L_66 : GoodIn allw (wsV R_L 66 R_X y_X_found w_X_found) := gw_of wm_L_methodLink_66 wm_im_X_found wm_se_X_found wm_in_X gg_X_found
theorem gw_L_69 : GoodIn allw (wsV R_L 69 R_M y_M_found w_M_found) := gw_of wm_L_methodLink_69 wm_im_M_found wm_se_M_found wm_in_M gg_M_found
theorem gw_L_70 : GoodIn allw (wsV R_L 70 R_X y_X_why w_X_why) := gw_of wm_L_methodLink_70 wm_im_X_why wm_se_X_why wm_in_X gg_X_why
theorem gw_L_73 : GoodIn allw (wsV R_L 73 R_M y_M_why w_M_why) := gw_of wm_L_methodLink_73 wm_im_M_why wm_se_M_why wm_in_M gg_M_why
theorem gw_L_74 : GoodIn allw (wsV R_L 74 R_X y_X_left w_X_left) := gw_of wm_L_methodLink_74 wm_im_X_left wm_se_X_left wm_in_X gg_X_left
theorem gw_L_77 : GoodIn allw (wsV R_L 77 R_M y_M_left w_M_left) := gw_of wm_L_methodLink_77 wm_im_M_left wm_se_M_left wm_in_M gg_M_left
theorem gw_L_78 : GoodIn allw (wsV R_L 78 R_X y_X_emptied w_X_emptied) := gw_of wm_L_methodLink_78 wm_im_X_emptied wm_se_X_emptied wm_in_X gg_X_emptied
theorem gw_L_81 : GoodIn allw (wsV R_L 81 R_M y_M_emptied w_M_emptied) := gw_of wm_L_methodLink_81 wm_im_M_emptied wm_se_M_emptied wm_in_M gg_M_emptied
theorem gw_L_85 : GoodIn allw (wsV R_L 85 R_M y_M_explain w_M_explain) := gw_of wm_L_methodLink_85 wm_im_M_explain wm_se_M_explain wm_in_M gg_M_explain
theorem gw_L_89 : GoodIn allw (wsV R_L 89 R_M y_M_precedent w_M_precedent) := gw_of wm_L_methodLink_89 wm_im_M_precedent wm_se_M_precedent wm_in_M gg_M_precedent
theorem gw_L_90 : GoodIn allw (wsV R_L 90 R_X y_X_contradicts w_X_contradicts) := gw_of wm_L_methodLink_90 wm_im_X_contradicts wm_se_X_contradicts wm_in_X gg_X_contradicts
theorem gw_L_94 : GoodIn allw (wsV R_L 94 R_M y_M_contradicts w_M_contradicts) := gw_of wm_L_methodLink_94 wm_im_M_contradicts wm_se_M_contradicts wm_in_M gg_M_contradicts
theorem gw_L_95 : GoodIn allw (wsV R_L 95 R_X y_X_day w_X_day) := gw_of wm_L_methodLink_95 wm_im_X_day wm_se_X_day wm_in_X gg_X_day
theorem gw_L_99 : GoodIn allw (wsV R_L 99 R_M y_M_day w_M_day) := gw_of wm_L_methodLink_99 wm_im_M_day wm_se_M_day wm_in_M gg_M_day
theorem gw_L_100 : GoodIn allw (wsV R_L 100 R_X y_X_count w_X_count) := gw_of wm_L_methodLink_100 wm_im_X_count wm_se_X_count wm_in_X gg_X_count
theorem gw_L_103 : GoodIn allw (wsV R_L 103 R_M y_M_count w_M_count) := gw_of wm_L_methodLink_103 wm_im_M_count wm_se_M_count wm_in_M gg_M_count
theorem gw_M_83 : GoodIn allw (wsV R_M 83 R_M y_M_find w_M_find) := gw_of wm_M_methodLink_83 wm_im_M_find wm_se_M_find wm_in_M gg_M_find
theorem gw_M_94 : GoodIn allw (wsV R_M 94 R_M y_M_doesLeave w_M_doesLeave) := gw_of wm_M_methodLink_94 wm_im_M_doesLeave wm_se_M_doesLeave wm_in_M gg_M_doesLeave
theorem gw_M_97 : GoodIn allw (wsV R_M 97 R_M y_M_isLeft w_M_isLeft) := gw_of wm_M_methodLink_97 wm_im_M_isLeft wm_se_M_isLeft wm_in_M gg_M_isLeft
theorem gw_M_104 : GoodIn allw (wsV R_M 104 R_M y_M_leftMany w_M_leftMany) := gw_of wm_M_methodLink_104 wm_im_M_leftMany wm_se_M_leftMany wm_in_M gg_M_leftMany
theorem gw_M_114 : GoodIn allw (wsV R_M 114 R_M y_M_leftSet w_M_leftSet) := gw_of wm_M_methodLink_114 wm_im_M_leftSet wm_se_M_leftSet wm_in_M gg_M_leftSet
theorem gw_M_117 : GoodIn allw (wsV R_M 117 R_M y_M_openSet w_M_openSet) := gw_of wm_M_methodLink_117 wm_im_M_openSet wm_se_M_openSet wm_in_M gg_M_openSet
theorem gw_M_120 : GoodIn allw (wsV R_M 120 R_M y_M_begin w_M_begin) := gw_of wm_M_methodLink_120 wm_im_M_begin wm_se_M_begin wm_in_M gg_M_begin
theorem gw_M_124 : GoodIn allw (wsV R_M 124 R_M y_M_parts w_M_parts) := gw_of wm_M_methodLink_124 wm_im_M_parts wm_se_M_parts wm_in_M gg_M_parts
theorem gw_M_127 : GoodIn allw (wsV R_M 127 R_M y_M_turnTo w_M_turnTo) := gw_of wm_M_methodLink_127 wm_im_M_turnTo wm_se_M_turnTo wm_in_M gg_M_turnTo
theorem gw_M_131 : GoodIn allw (wsV R_M 131 R_M y_M_reckon w_M_reckon) := gw_of wm_M_methodLink_131 wm_im_M_reckon wm_se_M_reckon wm_in_M gg_M_reckon
theorem gw_M_137 : GoodIn allw (wsV R_M 137 R_M y_M_isGiven w_M_isGiven) := gw_of wm_M_methodLink_137 wm_im_M_isGiven wm_se_M_isGiven wm_in_M gg_M_isGiven
theorem gw_M_143 : GoodIn allw (wsV R_M 143 R_M y_M_holds w_M_holds) := gw_of wm_M_methodLink_143 wm_im_M_holds wm_se_M_holds wm_in_M gg_M_holds
theorem gw_M_146 : GoodIn allw (wsV R_M 146 R_M y_M_ahead w_M_ahead) := gw_of wm_M_methodLink_146 wm_im_M_ahead wm_se_M_ahead wm_in_M gg_M_ahead
theorem gw_M_150 : GoodIn allw (wsV R_M 150 R_M y_M_ruled w_M_ruled) := gw_of wm_M_methodLink_150 wm_im_M_ruled wm_se_M_ruled wm_in_M gg_M_ruled
theorem gw_M_153 : GoodIn allw (wsV R_M 153 R_M y_M_bestLeft w_M_bestLeft) := gw_of wm_M_methodLink_153 wm_im_M_bestLeft wm_se_M_bestLeft wm_in_M gg_M_bestLeft
theorem gw_M_156 : GoodIn allw (wsV R_M 156 R_M y_M_isLeftBy w_M_isLeftBy) := gw_of wm_M_methodLink_156 wm_im_M_isLeftBy wm_se_M_isLeftBy wm_in_M gg_M_isLeftBy
theorem gw_X_69 : GoodIn allw (wsV R_X 69 R_X y_X_placeOf w_X_placeOf) := gw_of wm_X_methodLink_69 wm_im_X_placeOf wm_se_X_placeOf wm_in_X gg_X_placeOf
theorem gw_X_73 : GoodIn allw (wsV R_X 73 R_X y_X_howManyBelow w_X_howManyBelow) := gw_of wm_X_methodLink_73 wm_im_X_howManyBelow wm_se_X_howManyBelow wm_in_X gg_X_howManyBelow
theorem gw_X_76 : GoodIn allw (wsV R_X 76 R_X y_X_makeRoomAt w_X_makeRoomAt) := gw_of wm_X_methodLink_76 wm_im_X_makeRoomAt wm_se_X_makeRoomAt wm_in_X gg_X_makeRoomAt
theorem gw_X_80 : GoodIn allw (wsV R_X 80 R_X y_X_leftByRules w_X_leftByRules) := gw_of wm_X_methodLink_80 wm_im_X_leftByRules wm_se_X_leftByRules wm_in_X gg_X_leftByRules
theorem gw_X_106 : GoodIn allw (wsV R_X 106 R_X y_X_takeBack w_X_takeBack) := gw_of wm_X_methodLink_106 wm_im_X_takeBack wm_se_X_takeBack wm_in_X gg_X_takeBack
theorem gw_X_109 : GoodIn allw (wsV R_X 109 R_X y_X_give w_X_give) := gw_of wm_X_methodLink_109 wm_im_X_give wm_se_X_give wm_in_X gg_X_give
theorem gw_X_113 : GoodIn allw (wsV R_X 113 R_X y_X_leftSet w_X_leftSet) := gw_of wm_X_methodLink_113 wm_im_X_leftSet wm_se_X_leftSet wm_in_X gg_X_leftSet
theorem gw_X_122 : GoodIn allw (wsV R_X 122 R_X y_X_openQuestions w_X_openQuestions) := gw_of wm_X_methodLink_122 wm_im_X_openQuestions wm_se_X_openQuestions wm_in_X gg_X_openQuestions
theorem gw_X_125 : GoodIn allw (wsV R_X 125 R_X y_X_partingOf w_X_partingOf) := gw_of wm_X_methodLink_125 wm_im_X_partingOf wm_se_X_partingOf wm_in_X gg_X_partingOf
theorem gw_X_128 : GoodIn allw (wsV R_X 128 R_X y_X_neededWith w_X_neededWith) := gw_of wm_X_methodLink_128 wm_im_X_neededWith wm_se_X_neededWith wm_in_X gg_X_neededWith
theorem gw_X_132 : GoodIn allw (wsV R_X 132 R_X y_X_neededFor w_X_neededFor) := gw_of wm_X_methodLink_132 wm_im_X_neededFor wm_se_X_neededFor wm_in_X gg_X_neededFor
theorem gw_X_135 : GoodIn allw (wsV R_X 135 R_X y_X_ruledCode w_X_ruledCode) := gw_of wm_X_methodLink_135 wm_im_X_ruledCode wm_se_X_ruledCode wm_in_X gg_X_ruledCode
theorem gw_X_138 : GoodIn allw (wsV R_X 138 R_X y_X_mostSpecificOf w_X_mostSpecificOf) := gw_of wm_X_methodLink_138 wm_im_X_mostSpecificOf wm_se_X_mostSpecificOf wm_in_X gg_X_mostSpecificOf
theorem gw_X_141 : GoodIn allw (wsV R_X 141 R_X y_X_greatestShareOf w_X_greatestShareOf) := gw_of wm_X_methodLink_141 wm_im_X_greatestShareOf wm_se_X_greatestShareOf wm_in_X gg_X_greatestShareOf
theorem gw_X_144 : GoodIn allw (wsV R_X 144 R_X y_X_lastNumberOf w_X_lastNumberOf) := gw_of wm_X_methodLink_144 wm_im_X_lastNumberOf wm_se_X_lastNumberOf wm_in_X gg_X_lastNumberOf
theorem gw_X_147 : GoodIn allw (wsV R_X 147 R_X y_X_everyCode w_X_everyCode) := gw_of wm_X_methodLink_147 wm_im_X_everyCode wm_se_X_everyCode wm_in_X gg_X_everyCode
theorem gw_X_153 : GoodIn allw (wsV R_X 153 R_X y_X_answerTo w_X_answerTo) := gw_of wm_X_methodLink_153 wm_im_X_answerTo wm_se_X_answerTo wm_in_X gg_X_answerTo
theorem gw_X_156 : GoodIn allw (wsV R_X 156 R_X y_X_leaves w_X_leaves) := gw_of wm_X_methodLink_156 wm_im_X_leaves wm_se_X_leaves wm_in_X gg_X_leaves
theorem gw_X_172 : GoodIn allw (wsV R_X 172 R_X y_X_howManyHold w_X_howManyHold) := gw_of wm_X_methodLink_172 wm_im_X_howManyHold wm_se_X_howManyHold wm_in_X gg_X_howManyHold
theorem gw_X_179 : GoodIn allw (wsV R_X 179 R_X y_X_parts w_X_parts) := gw_of wm_X_methodLink_179 wm_im_X_parts wm_se_X_parts wm_in_X gg_X_parts
theorem gw_X_193 : GoodIn allw (wsV R_X 193 R_X y_X_isGiven w_X_isGiven) := gw_of wm_X_methodLink_193 wm_im_X_isGiven wm_se_X_isGiven wm_in_X gg_X_isGiven
theorem gw_X_196 : GoodIn allw (wsV R_X 196 R_X y_X_holds w_X_holds) := gw_of wm_X_methodLink_196 wm_im_X_holds wm_se_X_holds wm_in_X gg_X_holds
end
