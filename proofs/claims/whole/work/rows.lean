section
/-! ===== BEGIN words of one list among another's, by their places ===== -/
theorem goodIn_r {big : List Cond} (ws : List Cond) (ps : List Nat) (hp : ws = ps.filterMap (fun i => big[i]?)) (h : ws.all goodWord = true) : GoodIn big ws := by
  intro w hw
  have h1 := List.all_eq_true.mp h w hw
  rw [hp] at hw
  obtain ⟨i, -, hi⟩ := List.mem_filterMap.mp hw
  have hm : w ∈ big := by first | exact List.mem_of_getElem? hi | exact List.getElem?_mem hi
  exact ⟨hm, good_of_word h1⟩
theorem goodIn_app {big a b : List Cond} (ha : GoodIn big a) (hb : GoodIn big b) : GoodIn big (a ++ b) := fun w h => (List.mem_append.mp h).elim (ha w) (hb w)
theorem goodIn_ca {big a b : List Cond} {c : Cond} (ha : GoodIn big (c :: a)) (hb : GoodIn big b) : GoodIn big (c :: (a ++ b)) := fun w h => (List.mem_cons.mp h).elim (fun e => ha w (List.mem_cons.mpr (Or.inl e))) (fun h => (List.mem_append.mp h).elim (fun h => ha w (List.mem_cons.mpr (Or.inr h))) (hb w))
theorem goodIn_sub {big ws : List Cond} (hm : ∀ w ∈ ws, w ∈ big) (h : ws.all goodWord = true) : GoodIn big ws := fun w hw => ⟨hm w hw, good_of_word (List.all_eq_true.mp h w hw)⟩
/-! ===== END ===== -/

/-! ===== BEGIN exceptions that leave a method, and their catching by the caller (launches without stack traces) ===== -/
section VXA
/-! The laws vx_back, vx_callV, vx_callS, vx_callSW, vx_throw0, vx_throwS follow proofs of the library, with one case more: JvmDerived/Free/Laws.lean (Back.of_free), Shelf42/LK1.lean (callV, callS), Shelf/KitTraced.lean (throwNew0V, throwNewS). -/
/-- where a method has thrown q: the class by its name, the cell, what was written, the world -/
def vx_T (XC : String → State → State → Prop) (st : State) (q : Addr) (t : State) (mc ms : Nat) (free : Addr → Prop) : Prop :=
  ∃ (E : String) (ce : Cell) (L : List Loc), XC E st t ∧ t.heap[q]? = some ce ∧ ce.vm = .none ∧ st.vm.findClass E = some ce.cls ∧ st.WarmedH t.vm ∧ st.sameButNew ({ t with vm := st.vm } : State) L mc ms ∧ ∀ z ∈ L, free z.base
def vx_Q (Qc : Array Value → State → Outcome → State → Prop) (XC : String → State → State → Prop) (mc ms : Nat) (free : Addr → Prop) : Array Value → State → Outcome → State → Prop := fun a st o t =>
  (Qc a st o t ∧ ∃ L, FrameEnd st o t L mc ms ∧ ∀ q ∈ L, free q.base) ∨ ∃ q, o = .threw q ∧ vx_T XC st q t mc ms free
/-- a callee that returns or throws -/
def vx_Met (l : Launch) (y : MethodName) (ws : List Cond) (rm : Room) (Pc : Array Value → State → Prop) (Qc : Array Value → State → Outcome → State → Prop) (XC : String → State → State → Prop) (mc ms : Nat) (free : Addr → Prop) : Prop :=
  MetFree l y (headSpec ws rm) Pc (fun _ _ _ _ _ => True) (vx_Q Qc XC mc ms free)
def vx_Post (XC : String → State → State → Prop) (mc ms : Nat) (free : Addr → Prop) : Pt → Array Value → Addr → Pt → Prop := fun A a q B =>
  ∃ (g : JFrame) (mk : MethodId) (t : State) (L : List Loc) (E : String) (ce : Cell), B.U.heap = t.heap ∧ B.U.vm = t.vm ∧ XC E (A.U.calling g mk a) t ∧ t.heap[q]? = some ce ∧ ce.vm = .none ∧ A.U.vm.findClass E = some ce.cls ∧ B.locs = A.locs ++ L ∧ (∀ z ∈ L, free z.base) ∧ B.cells = A.cells + mc ∧ B.slots = A.slots + ms
def vx_Back (l : Launch) (R : Room) (p : Program) (e : Env) (below : List Frame) (s : State) (sargs : Array Value) (y : MethodName) (len W9 : Nat)
    (Pre : Pt → Array Value → Prop) (Post : Pt → Array Value → Option Value → Pt → Prop) (PostX : Pt → Array Value → Addr → Pt → Prop) : Prop :=
  ∀ (m : MethodId) (meth : Method) (c : Code) (A : Pt) (g : JFrame) (ig : Instr) (mk : MethodId) (a : Array Value),
    Stand p l e R s m sargs below meth c A.U A.locs A.cells A.slots → g.method = m → g.locals.size = c.maxLocals → decode c.code g.pc = .ok (ig, len) →
    2 * g.monitorRoom + (g.stack.map fun v => v.category).sum ≤ W9 → A.U.methodNamed? y = some mk → Pre A a →
    (∃ (v : Option Value) (B : Pt), Stand p l e R s m sargs below meth c B.U B.locs B.cells B.slots ∧ Post A a v B ∧
      Steps p.tables e below (doInvoke e (A.U.setTop g) [] mk a).1 (B.U.setTop { g with pc := g.pc + len, stack := v.toList ++ g.stack })) ∨
    (∃ (q : Addr) (B : Pt), Stand p l e R s m sargs below meth c B.U B.locs B.cells B.slots ∧ PostX A a q B ∧
      Steps p.tables e below (doInvoke e (A.U.setTop g) [] mk a).1 ((B.U.setTop g).pushFrame (.throwing q)))
section Payer
variable {l : Launch} {R : Room} {p : Program} {e : Env} {below : List Frame} {s : State} {sargs : Array Value} {y : MethodName} {len W9 : Nat}
theorem vx_back {ws : List Cond} {rm : Room} {Pc : Array Value → State → Prop} {Qc : Array Value → State → Outcome → State → Prop} {XC : String → State → State → Prop} {mc ms : Nat} {free : Addr → Prop} {bytes : ByteArray} {maxL : Nat} {ret : Option FieldType}
    (hM : vx_Met l y ws rm Pc Qc XC mc ms free) (hblind : FrameBlind Pc) (hrc : rm.cells = mc) (hrs : rm.slots = ms)
    (hframes : rm.frames + 1 ≤ R.frames) (hlocals : W9 + (maxL + 11) + rm.locals ≤ R.locals)
    (hws : ∀ w ∈ ws, ∀ a' U, s.WarmedH U.vm → w.before a' U = true) (hcode : Cond.code y bytes maxL ret ∈ ws) (hinit : ∀ a' U, s.WarmedH U.vm → (Cond.initialized y.cls).before a' U = true) :
    vx_Back l R p e below s sargs y len W9 (PreOf R mc ms Pc) (PostOf Qc mc ms free) (vx_Post XC mc ms free) := by
  intro m meth c A g ig mk a X hg hsize hdg hW hn hp
  have h1 : (headSpec ws rm).pre.before a A.U = true := atoms_intro fun w hw => hws w hw _ _ X.warmed
  have h2 : (Cond.code y bytes maxL ret).before a A.U = true := hws _ hcode _ _ X.warmed
  have h3 : (Cond.initialized y.cls).before a A.U = true := hinit _ _ X.warmed
  have h4 : A.cells + (headSpec ws rm).room.cells ≤ R.cells := by rw [show (headSpec ws rm).room.cells = mc from hrc]; exact hp.1
  have h5 : A.slots + (headSpec ws rm).room.slots ≤ R.slots := by rw [show (headSpec ws rm).room.slots = ms from hrs]; exact hp.2.1
  have hPc : Pc a (A.U.calling g mk a) := hblind _ _ _ _ hp.2.2
  obtain ⟨U, Ls, c0, s0⟩ := A
  dsimp only [Pt.U, Pt.locs, Pt.cells, Pt.slots] at h1 h2 h3 h4 h5 X hn hPc ⊢
  obtain ⟨methY, cY, hmY, hcY, -, hlY, -, -, -, -⟩ := Cond.code_spec hn h2
  obtain ⟨kY, hkY, -⟩ := className_of_methodNamed hn
  have hinitY : kY.init = .initialized := Cond.initialized_spec (findClass_of_methodNamed hn) hkY h3
  have h : At U g.method c below := by rw [hg]; exact X.here
  have hlocals9 : W9 + (maxL + 11) + (headSpec ws rm).room.locals ≤ R.locals := hlocals
  have happ : (headSpec ws rm).appliesLoose y e.platform (U.calling g mk a) = true :=
    Spec.appliesLoose_calling (g := g) h hdg hn hkY hinitY
      (X.room_calling (g := g) (R' := (headSpec ws rm).room) hsize hmY hcY hframes (by rw [hlY]; omega) h4 h5) h1
  obtain ⟨mid, hmid⟩ := h.above
  have hfr : (U.setTop g).frames = (.java g :: mid) ++ below := by rw [State.frames_setTop' g h.top, hmid]; rfl
  obtain ⟨o, s₂, hsteps, -, hend, hq⟩ := Steps.callFree hM p X.admits X.cas X.clock (acts := []) hfr happ hPc trivial
  have hq' : vx_Q Qc XC mc ms free a (U.calling g mk a) o s₂ := hq
  rw [State.frames_setTop' g h.top] at hend
  obtain ⟨g₀, hg0⟩ := Option.isSome_iff_exists.mp h.top
  obtain ⟨r, hr⟩ := State.topJava?_eq_some.mp hg0
  have hr' : (({ U with heap := s₂.heap, slotsUsed := s₂.slotsUsed } : State).setVm s₂.vm).frames = .java g₀ :: r := hr
  rcases hq' with ⟨hqc, L, hfe, hL⟩ | ⟨q, rfl, E, ce, L, hx, hce, hcv, hcl, hW₂, hsm, hL⟩
  · obtain ⟨⟨v, rfl⟩, hW₂, e2, q2, q3, q4, q5, q6⟩ := id hfe
    have e3 : s₂ = ({ (U.calling g mk a).setFrames s₂.frames with heap := s₂.heap, slotsUsed := s₂.slotsUsed } : State).setVm s₂.vm := by
      have : s₂ = ({ s₂ with vm := (U.calling g mk a).vm } : State).setVm s₂.vm := rfl
      rw [e2] at this
      exact this
    obtain ⟨c₂, i₂, len₂, hc₂, hd₂, hf₂⟩ := hend
    have hW' : U.WarmedH s₂.vm := hW₂
    have hcc : c₂ = c := by
      have h1 : s₂.code? g.method = U.code? g.method := by
        rw [State.code?_eq, State.code?_eq, hW'.alike.method?]
      exact Option.some.inj (hc₂.symm.trans (h1.trans h.code))
    subst hcc
    have hlen : len₂ = len := by rw [hdg] at hd₂; cases hd₂; rfl
    subst hlen
    have hs₂ : s₂ = (({ U with heap := s₂.heap, slotsUsed := s₂.slotsUsed } : State).setVm s₂.vm).setTop { g with pc := g.pc + len₂, stack := v.toList ++ g.stack } := by
      refine e3.trans ?_
      rw [hf₂, State.calling_eq h.top, State.setFrames_setFrames, State.setTop_of_frames _ hr', hr]
      rfl
    have hsame : U.sameButNew ({ U with heap := s₂.heap, slotsUsed := s₂.slotsUsed } : State) L mc ms := by
      refine ⟨?_, q2, q3, q4, q5, q6⟩
      obtain ⟨t, ht, -⟩ := State.frames_cons hr
      show ({ U with heap := s₂.heap, slotsUsed := s₂.slotsUsed } : State) = { U.setFrames U.frames with heap := s₂.heap, slotsUsed := s₂.slotsUsed }
      rw [State.setFrames_self ht]
    subst hg
    refine Or.inl ⟨v, ⟨(({ U with heap := s₂.heap, slotsUsed := s₂.slotsUsed } : State).setVm s₂.vm), Ls ++ L, c0 + mc, s0 + ms⟩,
      ⟨X.admits, X.cas, X.clock, X.frames, X.room, X.hears, X.method, X.code, (X.here.setHeapUsed s₂.heap s₂.slotsUsed).setVm hW'.alike, X.tail, State.WarmedH.trans X.warmed hW', X.limits, X.bytes, X.same.trans (hsame.setVm s.vm)⟩,
      ⟨g, mk, s₂, L, rfl, rfl, hqc, rfl, hL, rfl, rfl⟩, ?_⟩
    show Steps p.tables e below _ ((({ U with heap := s₂.heap, slotsUsed := s₂.slotsUsed } : State).setVm s₂.vm).setTop { g with pc := g.pc + len₂, stack := v.toList ++ g.stack })
    rw [← hs₂]
    exact hsteps
  · obtain ⟨e2, q2, q3, q4, q5, q6⟩ := id hsm
    have e3 : s₂ = ({ (U.calling g mk a).setFrames s₂.frames with heap := s₂.heap, slotsUsed := s₂.slotsUsed } : State).setVm s₂.vm := by
      have : s₂ = ({ s₂ with vm := (U.calling g mk a).vm } : State).setVm s₂.vm := rfl
      rw [e2] at this
      exact this
    have hf₂ : s₂.frames = .throwing q :: .java g :: U.frames.tail := hend
    have hW' : U.WarmedH s₂.vm := hW₂
    have hs₂ : s₂ = ((({ U with heap := s₂.heap, slotsUsed := s₂.slotsUsed } : State).setVm s₂.vm).setTop g).pushFrame (.throwing q) := by
      refine e3.trans ?_
      rw [hf₂, State.calling_eq h.top, State.setFrames_setFrames, State.pushFrame, State.frames_setTop _ hr', State.setTop_of_frames _ hr', State.setFrames_setFrames, hr]
      rfl
    have hsame : U.sameButNew ({ U with heap := s₂.heap, slotsUsed := s₂.slotsUsed } : State) L mc ms := by
      refine ⟨?_, q2, q3, q4, q5, q6⟩
      obtain ⟨t, ht, -⟩ := State.frames_cons hr
      show ({ U with heap := s₂.heap, slotsUsed := s₂.slotsUsed } : State) = { U.setFrames U.frames with heap := s₂.heap, slotsUsed := s₂.slotsUsed }
      rw [State.setFrames_self ht]
    subst hg
    refine Or.inr ⟨q, ⟨(({ U with heap := s₂.heap, slotsUsed := s₂.slotsUsed } : State).setVm s₂.vm), Ls ++ L, c0 + mc, s0 + ms⟩,
      ⟨X.admits, X.cas, X.clock, X.frames, X.room, X.hears, X.method, X.code, (X.here.setHeapUsed s₂.heap s₂.slotsUsed).setVm hW'.alike, X.tail, State.WarmedH.trans X.warmed hW', X.limits, X.bytes, X.same.trans (hsame.setVm s.vm)⟩,
      ⟨g, mk, s₂, L, E, ce, rfl, rfl, hx, hce, hcv, hcl, rfl, hL, rfl, rfl⟩, ?_⟩
    show Steps p.tables e below _ (((({ U with heap := s₂.heap, slotsUsed := s₂.slotsUsed } : State).setVm s₂.vm).setTop g).pushFrame (.throwing q))
    rw [← hs₂]
    exact hsteps
end Payer
section Calls
variable {p : Program} {l : Launch} {e : Env} {R : Room} {s : State} {m : MethodId} {args : Array Value} {below : List Frame} {meth : Method} {c : Code} {T : State} {locs : List Loc} {cells slots : Nat}
theorem vx_callV (X : Stand p l e R s m args below meth c T locs cells slots) (hexec : p.tables.exec = Jvm.exec) {own C : String} {index : Nat} {y : MethodName} {bytes : ByteArray} {maxL : Nat} {ret : Option FieldType}
    (hown : s.vm.findClass own = some m.cls) (hlink : (Cond.methodLink own index y).before args s = true) (hinst : (Cond.instanceMethod y).before args s = true) (hsel : (Cond.selects C y y).before args s = true)
    (hcode : (Cond.code y bytes maxL ret).before args s = true) (hy : y.cls ≠ "java/lang/invoke/MethodHandle" ∧ y.cls ≠ "java/lang/invoke/VarHandle")
    {W9 : Nat} {Pre : Pt → Array Value → Prop} {Post : Pt → Array Value → Option Value → Pt → Prop} {PostX : Pt → Array Value → Addr → Pt → Prop} (hK : vx_Back l R p e below s args y 3 W9 Pre Post PostX)
    {b : Addr} {cellB : Cell} (hcell : T.heap[b]? = some cellB) (hobj : cellB.vm.isStatics = false) (hcls : s.vm.findClass C = some cellB.cls)
    {g : JFrame} (hg : g.method = m) (hsize : g.locals.size = c.maxLocals) {argsL rest : List Value} (hlen : ∀ sig, parseMethodDescriptor y.desc = some sig → argsL.length = sig.parameters.length)
    (hstack : g.stack = argsL.reverse ++ .ref b :: rest) (hW : 2 * g.monitorRoom + (rest.map fun v => v.category).sum ≤ W9) (hdg : decode c.code g.pc = .ok (.invokevirtual index, 3))
    (hpre : ∀ vm₁, s.WarmedH vm₁ → Pre ⟨T.setVm vm₁, locs, cells, slots⟩ (Value.ref b :: argsL).toArray) :
    (∃ (v : Option Value) (vm₁ : Vm) (B : Pt), s.WarmedH vm₁ ∧ Stand p l e R s m args below meth c B.U B.locs B.cells B.slots ∧ Post ⟨T.setVm vm₁, locs, cells, slots⟩ (Value.ref b :: argsL).toArray v B ∧
      ∀ target, Steps p.tables e below (B.U.setTop { g with pc := g.pc + 3, stack := v.toList ++ rest }) target → Steps p.tables e below (T.setTop g) target) ∨
    (∃ (q : Addr) (vm₁ : Vm) (B : Pt), s.WarmedH vm₁ ∧ Stand p l e R s m args below meth c B.U B.locs B.cells B.slots ∧ PostX ⟨T.setVm vm₁, locs, cells, slots⟩ (Value.ref b :: argsL).toArray q B ∧
      Steps p.tables e below (T.setTop g) ((B.U.setTop { g with stack := rest }).pushFrame (.throwing q))) := by
  obtain ⟨mk, methM, hnamed, hmethM, hstM, habM⟩ := Cond.instanceMethod_spec hinst
  obtain ⟨methM', cM, hmethM', -, -, -, -, -, -, hsigM⟩ := Cond.code_spec hnamed hcode
  cases hmethM.symm.trans hmethM'
  obtain ⟨c2, r2, m2, q1, q2, q3, q4, kP, hkP, hkPi⟩ := Cond.selects_spec hsel
  cases hcls.symm.trans q1
  cases (State.methodFound?_of_named hnamed hy).symm.trans q2
  cases hnamed.symm.trans q3
  have hselP : selectMethod e.platform s.vm cellB.cls mk = .method mk := by rw [Launch.admits_selectMethod X.admits]; exact q4
  obtain ⟨vm₁, X₁, hstep₁⟩ := X.invokevirtual hexec hown hlink hnamed hmethM hstM hkP hkPi hy (a := b) (cell := cellB) hcell
    (fun z h => by rw [h] at hobj; cases hobj) hselP hmethM habM hkP hkPi (g := g) hg (argsL := argsL) (rest := rest) (hlen _ hsigM) hstack hdg
  rcases hK m meth c ⟨T.setVm vm₁, locs, cells, slots⟩ { g with stack := rest } (.invokevirtual index) mk (Value.ref b :: argsL).toArray X₁ hg hsize hdg hW (X₁.named hnamed) (hpre vm₁ X₁.warmed) with ⟨v, B, X', hpost, hsteps⟩ | ⟨q, B, X', hpost, hsteps⟩
  · exact Or.inl ⟨v, vm₁, B, X₁.warmed, X', hpost, fun target h => hstep₁ _ fun acts => by rw [doInvoke_state]; exact hsteps.trans h⟩
  · exact Or.inr ⟨q, vm₁, B, X₁.warmed, X', hpost, hstep₁ _ fun acts => by rw [doInvoke_state]; exact hsteps⟩
theorem vx_callS (X : Stand p l e R s m args below meth c T locs cells slots) (hexec : p.tables.exec = Jvm.exec) {own : String} {index : Nat} {y : MethodName} {bytes : ByteArray} {maxL : Nat} {ret : Option FieldType}
    (hown : s.vm.findClass own = some m.cls) (hlink : (Cond.methodLink own index y).before args s = true) (hstat : (Cond.static y).before args s = true) (hinit : (Cond.initialized y.cls).before args s = true)
    (hcode : (Cond.code y bytes maxL ret).before args s = true) (hy : y.cls ≠ "java/lang/invoke/MethodHandle" ∧ y.cls ≠ "java/lang/invoke/VarHandle")
    {W9 : Nat} {Pre : Pt → Array Value → Prop} {Post : Pt → Array Value → Option Value → Pt → Prop} {PostX : Pt → Array Value → Addr → Pt → Prop} (hK : vx_Back l R p e below s args y 3 W9 Pre Post PostX)
    {g : JFrame} (hg : g.method = m) (hsize : g.locals.size = c.maxLocals) {argsL rest : List Value} (hlen : ∀ sig, parseMethodDescriptor y.desc = some sig → argsL.length = sig.parameters.length)
    (hstack : g.stack = argsL.reverse ++ rest) (hW : 2 * g.monitorRoom + (rest.map fun v => v.category).sum ≤ W9) (hdg : decode c.code g.pc = .ok (.invokestatic index, 3))
    (hpre : ∀ vm₁, s.WarmedH vm₁ → Pre ⟨T.setVm vm₁, locs, cells, slots⟩ argsL.toArray) :
    (∃ (v : Option Value) (vm₁ : Vm) (B : Pt), s.WarmedH vm₁ ∧ Stand p l e R s m args below meth c B.U B.locs B.cells B.slots ∧ Post ⟨T.setVm vm₁, locs, cells, slots⟩ argsL.toArray v B ∧
      ∀ target, Steps p.tables e below (B.U.setTop { g with pc := g.pc + 3, stack := v.toList ++ rest }) target → Steps p.tables e below (T.setTop g) target) ∨
    (∃ (q : Addr) (vm₁ : Vm) (B : Pt), s.WarmedH vm₁ ∧ Stand p l e R s m args below meth c B.U B.locs B.cells B.slots ∧ PostX ⟨T.setVm vm₁, locs, cells, slots⟩ argsL.toArray q B ∧
      Steps p.tables e below (T.setTop g) ((B.U.setTop { g with stack := rest }).pushFrame (.throwing q))) := by
  obtain ⟨mk, hnamed⟩ := Cond.code_named hcode
  obtain ⟨methM, cM, hmethM, -, -, -, -, -, -, hsigM⟩ := Cond.code_spec hnamed hcode
  have hstatic : methM.isStatic = true := Cond.static_spec hnamed hmethM hstat
  obtain ⟨kP, hkP, -⟩ := className_of_methodNamed hnamed
  have hinitP : kP.init = .initialized := Cond.initialized_spec (findClass_of_methodNamed hnamed) hkP hinit
  obtain ⟨vm₁, X₁, hstep₁⟩ := X.invokestatic hexec hown hlink hnamed hmethM hstatic hkP hinitP hy (g := g) hg (argsL := argsL) (rest := rest) (hlen _ hsigM) hstack hdg
  rcases hK m meth c ⟨T.setVm vm₁, locs, cells, slots⟩ { g with stack := rest } (.invokestatic index) mk argsL.toArray X₁ hg hsize hdg hW (X₁.named hnamed) (hpre vm₁ X₁.warmed) with ⟨v, B, X', hpost, hsteps⟩ | ⟨q, B, X', hpost, hsteps⟩
  · exact Or.inl ⟨v, vm₁, B, X₁.warmed, X', hpost, fun target h => hstep₁ _ fun acts => by rw [doInvoke_state]; exact hsteps.trans h⟩
  · exact Or.inr ⟨q, vm₁, B, X₁.warmed, X', hpost, hstep₁ _ fun acts => by rw [doInvoke_state]; exact hsteps⟩
end Calls
theorem vx_cls {s : State} {T : State} {vm₁ : Vm} {E : String} {k : ClassId} (hW : s.WarmedH vm₁) (h : (T.setVm vm₁).vm.findClass E = some k) : s.vm.findClass E = some k := by
  have h1 : vm₁.findClass E = some k := h
  rw [hW.alike.findClass] at h1
  exact h1
/-- the method's frame g, with q thrown over it -/
def vx_W (p : Program) (l : Launch) (e : Env) (R : Room) (s : State) (m : MethodId) (args : Array Value) (below : List Frame) (meth : Method) (c : Code) (H : Heap) (locs : List Loc) (cells slots : Nat) (Q : State → Prop) (g : JFrame) (q : Addr) : Prop :=
  ∀ T : State, T.heap = H → Stand p l e R s m args below meth c T locs cells slots → ∃ t, Steps p.tables e below ((T.setTop g).pushFrame (.throwing q)) t ∧ Q t
def vx_Run (p : Program) (l : Launch) (e : Env) (R : Room) (s : State) (m : MethodId) (args : Array Value) (below : List Frame) (meth : Method) (c : Code) (H : Heap) (locs : List Loc) (cells slots mc ms : Nat) (g : JFrame) (rest : List Value) (Qa : State → Outcome → State → Prop) (XC : String → State → State → Prop) (free : Addr → Prop) : Prop :=
  ∀ T : State, T.heap = H → Stand p l e R s m args below meth c T locs cells slots →
    (∃ (v : Option Value) (st₀ t T' : State) (L : List Loc), st₀.heap = H ∧ Stand p l e R s m args below meth c T' (locs ++ L) (cells + mc) (slots + ms) ∧ (∀ q ∈ L, free q.base) ∧ T'.heap = t.heap ∧ T'.vm = t.vm ∧ Qa st₀ (.returned v) t ∧
      Goes p e below T g T' { g with pc := g.pc + 3, stack := v.toList ++ rest }) ∨
    (∃ (q : Addr) (st₀ t T' : State) (L : List Loc) (E : String) (ce : Cell), st₀.heap = H ∧ Stand p l e R s m args below meth c T' (locs ++ L) (cells + mc) (slots + ms) ∧ (∀ z ∈ L, free z.base) ∧ T'.heap = t.heap ∧ T'.vm = t.vm ∧ XC E st₀ t ∧ t.heap[q]? = some ce ∧ ce.vm = .none ∧ s.vm.findClass E = some ce.cls ∧
      Steps p.tables e below (T.setTop g) ((T'.setTop { g with stack := rest }).pushFrame (.throwing q)))
def vx_X {S : Type} (px : S → Prop) (B : String → S → State → Prop) (A : Nat → Prop) : String → State → State → Prop := fun E st t => ∃ u : S, px u ∧ B E u t ∧ va_F A st t
section Runs
variable {p : Program} {l : Launch} {e : Env} {R : Room} {s : State} {m : MethodId} {args : Array Value} {below : List Frame} {meth : Method} {c : Code} {H : Heap} {locs : List Loc} {cells slots : Nat}
variable {y : MethodName} {bytes cc : ByteArray} {maxL nL mc ms n index : Nat} {ret : Option FieldType} {ws : List Cond} {rm : Room} {Pc : Array Value → State → Prop} {Qc : Array Value → State → Outcome → State → Prop} {XC : String → State → State → Prop} {free : Addr → Prop} {Ts : List Cond} {own C : String} {b : Addr} {As rest : List Value} {g : JFrame}
theorem vx_callBack (cb : CallB R s args own index y bytes maxL ret ws rm mc ms n) (hM : vx_Met l y ws rm Pc Qc XC mc ms free) (hbl : FrameBlind Pc) : vx_Back l R p e below s args y 3 8 (PreOf R mc ms Pc) (PostOf Qc mc ms free) (vx_Post XC mc ms free) := by
  obtain ⟨hrc, hrs, hfr, hlo, hws, hcw, -, hini, -⟩ := cb
  exact vx_back (bytes := bytes) (maxL := maxL) (ret := ret) hM hbl hrc hrs hfr hlo hws hcw (fun a' U hW => word_at hW (Or.inl (by first | rfl | simp [Cond.onTables, Cond.keeps, Cond.steady])) hini)
theorem vx_runV (S : CallFix p m c cc nL s args Ts own) (hM : vx_Met l y ws rm Pc Qc XC mc ms free) (cw : CallW R s args own C index y bytes maxL ret ws rm mc ms n) (hp : PreV s H C b Pc As)
    (hg : g.method = m) (hn : As.length = n) (hsize : g.locals.size = nL) (hstack : g.stack = As.reverse ++ .ref b :: rest) (hW : 2 * g.monitorRoom + (rest.map fun v => v.category).sum ≤ 8) (hdg : decode cc g.pc = .ok (.invokevirtual index, 3)) (hf : cells + mc ≤ R.cells ∧ slots + ms ≤ R.slots) :
    vx_Run p l e R s m args below meth c H locs cells slots mc ms g rest (Qc (Value.ref b :: As).toArray) XC free := by
  have hK : vx_Back l R p e below s args y 3 8 (PreOf R mc ms Pc) (PostOf Qc mc ms free) (vx_Post XC mc ms free) := vx_callBack cw.1 hM hp.1
  obtain ⟨⟨-, -, -, -, -, -, hcode, -, hy, hlen, hl⟩, hin, hse⟩ := cw
  obtain ⟨hx, hb, hml, ho, -⟩ := S
  obtain ⟨-, ⟨cellB, hcB, hoB, hclB⟩, hPc⟩ := hp
  intro T hT X
  rcases vx_callV X hx (C := C) (bytes := bytes) (maxL := maxL) (ret := ret) ho hl hin hse hcode hy hK (by rw [hT]; exact hcB) hoB hclB hg (hsize.trans hml.symm) (argsL := As) (rest := rest) (fun sig h => hn.trans (hlen sig h)) hstack hW (by rw [hb]; exact hdg)
    (fun vm₁ hW₁ => ⟨hf.1, hf.2, hPc (T.setVm vm₁) hT hW₁⟩) with ⟨v, vm₁, ⟨U', l2, c2, s2⟩, hW₁, X', ⟨g', mk, t, L, e1, e2, hq, h1, hL, h2, h3⟩, st⟩ | ⟨q, vm₁, ⟨U', l2, c2, s2⟩, hW₁, X', ⟨g', mk, t, L, E, ce, e1, e2, hq, hce, hcv, hcl, h1, hL, h2, h3⟩, st⟩
  · dsimp only [Pt.U, Pt.locs, Pt.cells, Pt.slots] at X' e1 e2 h1 h2 h3 st
    subst h1; subst h2; subst h3
    exact Or.inl ⟨v, (T.setVm vm₁).calling g' mk (Value.ref b :: As).toArray, t, U', L, hT, X', hL, e1, e2, hq, st⟩
  · dsimp only [Pt.U, Pt.locs, Pt.cells, Pt.slots] at X' e1 e2 h1 h2 h3 st hcl
    subst h1; subst h2; subst h3
    exact Or.inr ⟨q, (T.setVm vm₁).calling g' mk (Value.ref b :: As).toArray, t, U', L, E, ce, hT, X', hL, e1, e2, hq, hce, hcv, vx_cls hW₁ hcl, st⟩
theorem vx_runS (S : CallFix p m c cc nL s args Ts own) (hM : vx_Met l y ws rm Pc Qc XC mc ms free) (cw : CallB R s args own index y bytes maxL ret ws rm mc ms n ∧ (Cond.static y).before args s = true) (hp : PreS s H Pc As)
    (hg : g.method = m) (hn : As.length = n) (hsize : g.locals.size = nL) (hstack : g.stack = As.reverse ++ rest) (hW : 2 * g.monitorRoom + (rest.map fun v => v.category).sum ≤ 8) (hdg : decode cc g.pc = .ok (.invokestatic index, 3)) (hf : cells + mc ≤ R.cells ∧ slots + ms ≤ R.slots) :
    vx_Run p l e R s m args below meth c H locs cells slots mc ms g rest (Qc As.toArray) XC free := by
  have hK : vx_Back l R p e below s args y 3 8 (PreOf R mc ms Pc) (PostOf Qc mc ms free) (vx_Post XC mc ms free) := vx_callBack cw.1 hM hp.1
  obtain ⟨⟨-, -, -, -, -, -, hcode, hini, hy, hlen, hl⟩, hstt⟩ := cw
  obtain ⟨hx, hb, hml, ho, -⟩ := S
  intro T hT X
  rcases vx_callS X hx (bytes := bytes) (maxL := maxL) (ret := ret) ho hl hstt hini hcode hy hK hg (hsize.trans hml.symm) (argsL := As) (rest := rest) (fun sig h => hn.trans (hlen sig h)) hstack hW (by rw [hb]; exact hdg)
    (fun vm₁ hW₁ => ⟨hf.1, hf.2, hp.2 (T.setVm vm₁) hT hW₁⟩) with ⟨v, vm₁, ⟨U', l2, c2, s2⟩, hW₁, X', ⟨g', mk, t, L, e1, e2, hq, h1, hL, h2, h3⟩, st⟩ | ⟨q, vm₁, ⟨U', l2, c2, s2⟩, hW₁, X', ⟨g', mk, t, L, E, ce, e1, e2, hq, hce, hcv, hcl, h1, hL, h2, h3⟩, st⟩
  · dsimp only [Pt.U, Pt.locs, Pt.cells, Pt.slots] at X' e1 e2 h1 h2 h3 st
    subst h1; subst h2; subst h3
    exact Or.inl ⟨v, (T.setVm vm₁).calling g' mk As.toArray, t, U', L, hT, X', hL, e1, e2, hq, st⟩
  · dsimp only [Pt.U, Pt.locs, Pt.cells, Pt.slots] at X' e1 e2 h1 h2 h3 st hcl
    subst h1; subst h2; subst h3
    exact Or.inr ⟨q, (T.setVm vm₁).calling g' mk As.toArray, t, U', L, E, ce, hT, X', hL, e1, e2, hq, hce, hcv, vx_cls hW₁ hcl, st⟩
end Runs
section Rows
variable {p : Program} {l : Launch} {e : Env} {R : Room} {s : State} {m : MethodId} {args : Array Value} {below : List Frame} {meth : Method} {c : Code} {H : Heap} {locs : List Loc} {cells slots : Nat} {Q : State → Prop}
variable {mc ms : Nat} {free : Addr → Prop} {A0 A1 : Nat → Prop} {H0 : Heap} {a : Array Value} {pc : Nat} {ls : Array Slot} {st0 rest : List Value}
theorem vx_keep {st₀ t T' : State} {L : List Loc} (h0 : st₀.heap = H) (e1 : T'.heap = t.heap) (hS : va_S A0 H0 H locs) (hA : ∀ q, q < H.size → A1 q → A0 q) (hf : ∀ q, free q → A0 q) (hL : ∀ q ∈ L, free q.base) (hF : va_F A1 st₀ t) :
    H.size ≤ T'.heap.size ∧ (∀ q : Nat, q < H.size → ¬ A1 q → T'.heap[q]? = H[q]?) ∧ va_S A0 H0 T'.heap (locs ++ L) := by
  obtain ⟨hz, hk⟩ := hF
  rw [h0] at hz hk
  exact ⟨by rw [e1]; exact hz, fun q h1 h2 => by rw [e1]; exact hk q h1 h2,
    ⟨Nat.le_trans hS.1 (by rw [e1]; exact hz), fun q h1 h2 => by rw [e1, hk q (Nat.lt_of_lt_of_le h1 hS.1) (fun z => h2 (hA q (Nat.lt_of_lt_of_le h1 hS.1) z))]; exact hS.2.1 q h1 h2, fun q hq => by
      rcases List.mem_append.mp hq with h | h
      · exact hS.2.2 q h
      · exact hf _ (hL q h)⟩⟩
theorem vx_calli {S SX : Type} {post : Int32 → S → Prop} {px : SX → Prop} {B : S → State → Prop} {BX : String → SX → State → Prop} {AX : Nat → Prop} (hr : vx_Run p l e R s m args below meth c H locs cells slots mc ms (F0 m pc ls st0) rest (va_Qi post B A1 a) (vx_X px BX AX) free) (hS : va_S A0 H0 H locs) (hA : ∀ q, q < H.size → A1 q → A0 q) (hf : ∀ q, free q → A0 q) (hAX : ∀ q, q < H.size → AX q → A0 q)
    (kx : ∀ (E : String) (ce : Cell) (q9 : Addr) (u : SX) (t : State) (H1 : Heap) (locs1 : List Loc), t.heap = H1 → s.vm.Alike t.vm → px u → BX E u t → H.size ≤ H1.size → (∀ q : Nat, q < H.size → ¬ AX q → H1[q]? = H[q]?) → va_S A0 H0 H1 locs1 → H1[q9]? = some ce → ce.vm = .none → s.vm.findClass E = some ce.cls → vx_W p l e R s m args below meth c H1 locs1 (cells + mc) (slots + ms) Q (F0 m pc ls rest) q9)
    (kk : ∀ (r : Int32) (u : S) (t : State) (H1 : Heap) (locs1 : List Loc), t.heap = H1 → s.vm.Alike t.vm → post r u → B u t → H.size ≤ H1.size → (∀ q : Nat, q < H.size → ¬ A1 q → H1[q]? = H[q]?) → va_S A0 H0 H1 locs1 → W p l e R s m args below meth c H1 locs1 (cells + mc) (slots + ms) Q (F0 m (pc + 3) ls (.int r :: rest))) : W p l e R s m args below meth c H locs cells slots Q (F0 m pc ls st0) := by
  intro T hT X
  rcases hr T hT X with ⟨v, st₀, t, T', L, h0, X', hL, e1, e2, ⟨⟨r, u, hv, hp, hb⟩, hF⟩, st⟩ | ⟨q, st₀, t, T', L, E, ce, h0, X', hL, e1, e2, ⟨u, hp, hb, hF⟩, hce, hcv, hcl, st⟩
  · cases hv
    obtain ⟨k1, k2, k3⟩ := vx_keep h0 e1 hS hA hf hL hF
    obtain ⟨t2, a1, b1⟩ := kk r u t T'.heap (locs ++ L) e1.symm (by rw [← e2]; exact X'.warmed.alike) hp hb k1 k2 k3 T' rfl X'
    exact ⟨t2, st t2 a1, b1⟩
  · obtain ⟨k1, k2, k3⟩ := vx_keep h0 e1 hS hAX hf hL hF
    obtain ⟨t2, a1, b1⟩ := kx E ce q u t T'.heap (locs ++ L) e1.symm (by rw [← e2]; exact X'.warmed.alike) hp hb k1 k2 k3 (by rw [e1]; exact hce) hcv hcl T' rfl X'
    exact ⟨t2, st.trans a1, b1⟩
theorem vx_calll {S SX : Type} {post : Int64 → S → Prop} {px : SX → Prop} {B : S → State → Prop} {BX : String → SX → State → Prop} {AX : Nat → Prop} (hr : vx_Run p l e R s m args below meth c H locs cells slots mc ms (F0 m pc ls st0) rest (va_Ql post B A1 a) (vx_X px BX AX) free) (hS : va_S A0 H0 H locs) (hA : ∀ q, q < H.size → A1 q → A0 q) (hf : ∀ q, free q → A0 q) (hAX : ∀ q, q < H.size → AX q → A0 q)
    (kx : ∀ (E : String) (ce : Cell) (q9 : Addr) (u : SX) (t : State) (H1 : Heap) (locs1 : List Loc), t.heap = H1 → s.vm.Alike t.vm → px u → BX E u t → H.size ≤ H1.size → (∀ q : Nat, q < H.size → ¬ AX q → H1[q]? = H[q]?) → va_S A0 H0 H1 locs1 → H1[q9]? = some ce → ce.vm = .none → s.vm.findClass E = some ce.cls → vx_W p l e R s m args below meth c H1 locs1 (cells + mc) (slots + ms) Q (F0 m pc ls rest) q9)
    (kk : ∀ (r : Int64) (u : S) (t : State) (H1 : Heap) (locs1 : List Loc), t.heap = H1 → s.vm.Alike t.vm → post r u → B u t → H.size ≤ H1.size → (∀ q : Nat, q < H.size → ¬ A1 q → H1[q]? = H[q]?) → va_S A0 H0 H1 locs1 → W p l e R s m args below meth c H1 locs1 (cells + mc) (slots + ms) Q (F0 m (pc + 3) ls (.long r :: rest))) : W p l e R s m args below meth c H locs cells slots Q (F0 m pc ls st0) := by
  intro T hT X
  rcases hr T hT X with ⟨v, st₀, t, T', L, h0, X', hL, e1, e2, ⟨⟨r, u, hv, hp, hb⟩, hF⟩, st⟩ | ⟨q, st₀, t, T', L, E, ce, h0, X', hL, e1, e2, ⟨u, hp, hb, hF⟩, hce, hcv, hcl, st⟩
  · cases hv
    obtain ⟨k1, k2, k3⟩ := vx_keep h0 e1 hS hA hf hL hF
    obtain ⟨t2, a1, b1⟩ := kk r u t T'.heap (locs ++ L) e1.symm (by rw [← e2]; exact X'.warmed.alike) hp hb k1 k2 k3 T' rfl X'
    exact ⟨t2, st t2 a1, b1⟩
  · obtain ⟨k1, k2, k3⟩ := vx_keep h0 e1 hS hAX hf hL hF
    obtain ⟨t2, a1, b1⟩ := kx E ce q u t T'.heap (locs ++ L) e1.symm (by rw [← e2]; exact X'.warmed.alike) hp hb k1 k2 k3 (by rw [e1]; exact hce) hcv hcl T' rfl X'
    exact ⟨t2, st.trans a1, b1⟩
theorem vx_callf {S SX : Type} {post : UInt32 → S → Prop} {px : SX → Prop} {B : S → State → Prop} {BX : String → SX → State → Prop} {AX : Nat → Prop} (hr : vx_Run p l e R s m args below meth c H locs cells slots mc ms (F0 m pc ls st0) rest (va_Qf post B A1 a) (vx_X px BX AX) free) (hS : va_S A0 H0 H locs) (hA : ∀ q, q < H.size → A1 q → A0 q) (hf : ∀ q, free q → A0 q) (hAX : ∀ q, q < H.size → AX q → A0 q)
    (kx : ∀ (E : String) (ce : Cell) (q9 : Addr) (u : SX) (t : State) (H1 : Heap) (locs1 : List Loc), t.heap = H1 → s.vm.Alike t.vm → px u → BX E u t → H.size ≤ H1.size → (∀ q : Nat, q < H.size → ¬ AX q → H1[q]? = H[q]?) → va_S A0 H0 H1 locs1 → H1[q9]? = some ce → ce.vm = .none → s.vm.findClass E = some ce.cls → vx_W p l e R s m args below meth c H1 locs1 (cells + mc) (slots + ms) Q (F0 m pc ls rest) q9)
    (kk : ∀ (r : UInt32) (u : S) (t : State) (H1 : Heap) (locs1 : List Loc), t.heap = H1 → s.vm.Alike t.vm → post r u → B u t → H.size ≤ H1.size → (∀ q : Nat, q < H.size → ¬ A1 q → H1[q]? = H[q]?) → va_S A0 H0 H1 locs1 → W p l e R s m args below meth c H1 locs1 (cells + mc) (slots + ms) Q (F0 m (pc + 3) ls (.float r :: rest))) : W p l e R s m args below meth c H locs cells slots Q (F0 m pc ls st0) := by
  intro T hT X
  rcases hr T hT X with ⟨v, st₀, t, T', L, h0, X', hL, e1, e2, ⟨⟨r, u, hv, hp, hb⟩, hF⟩, st⟩ | ⟨q, st₀, t, T', L, E, ce, h0, X', hL, e1, e2, ⟨u, hp, hb, hF⟩, hce, hcv, hcl, st⟩
  · cases hv
    obtain ⟨k1, k2, k3⟩ := vx_keep h0 e1 hS hA hf hL hF
    obtain ⟨t2, a1, b1⟩ := kk r u t T'.heap (locs ++ L) e1.symm (by rw [← e2]; exact X'.warmed.alike) hp hb k1 k2 k3 T' rfl X'
    exact ⟨t2, st t2 a1, b1⟩
  · obtain ⟨k1, k2, k3⟩ := vx_keep h0 e1 hS hAX hf hL hF
    obtain ⟨t2, a1, b1⟩ := kx E ce q u t T'.heap (locs ++ L) e1.symm (by rw [← e2]; exact X'.warmed.alike) hp hb k1 k2 k3 (by rw [e1]; exact hce) hcv hcl T' rfl X'
    exact ⟨t2, st.trans a1, b1⟩
theorem vx_calld {S SX : Type} {post : UInt64 → S → Prop} {px : SX → Prop} {B : S → State → Prop} {BX : String → SX → State → Prop} {AX : Nat → Prop} (hr : vx_Run p l e R s m args below meth c H locs cells slots mc ms (F0 m pc ls st0) rest (va_Qd post B A1 a) (vx_X px BX AX) free) (hS : va_S A0 H0 H locs) (hA : ∀ q, q < H.size → A1 q → A0 q) (hf : ∀ q, free q → A0 q) (hAX : ∀ q, q < H.size → AX q → A0 q)
    (kx : ∀ (E : String) (ce : Cell) (q9 : Addr) (u : SX) (t : State) (H1 : Heap) (locs1 : List Loc), t.heap = H1 → s.vm.Alike t.vm → px u → BX E u t → H.size ≤ H1.size → (∀ q : Nat, q < H.size → ¬ AX q → H1[q]? = H[q]?) → va_S A0 H0 H1 locs1 → H1[q9]? = some ce → ce.vm = .none → s.vm.findClass E = some ce.cls → vx_W p l e R s m args below meth c H1 locs1 (cells + mc) (slots + ms) Q (F0 m pc ls rest) q9)
    (kk : ∀ (r : UInt64) (u : S) (t : State) (H1 : Heap) (locs1 : List Loc), t.heap = H1 → s.vm.Alike t.vm → post r u → B u t → H.size ≤ H1.size → (∀ q : Nat, q < H.size → ¬ A1 q → H1[q]? = H[q]?) → va_S A0 H0 H1 locs1 → W p l e R s m args below meth c H1 locs1 (cells + mc) (slots + ms) Q (F0 m (pc + 3) ls (.double r :: rest))) : W p l e R s m args below meth c H locs cells slots Q (F0 m pc ls st0) := by
  intro T hT X
  rcases hr T hT X with ⟨v, st₀, t, T', L, h0, X', hL, e1, e2, ⟨⟨r, u, hv, hp, hb⟩, hF⟩, st⟩ | ⟨q, st₀, t, T', L, E, ce, h0, X', hL, e1, e2, ⟨u, hp, hb, hF⟩, hce, hcv, hcl, st⟩
  · cases hv
    obtain ⟨k1, k2, k3⟩ := vx_keep h0 e1 hS hA hf hL hF
    obtain ⟨t2, a1, b1⟩ := kk r u t T'.heap (locs ++ L) e1.symm (by rw [← e2]; exact X'.warmed.alike) hp hb k1 k2 k3 T' rfl X'
    exact ⟨t2, st t2 a1, b1⟩
  · obtain ⟨k1, k2, k3⟩ := vx_keep h0 e1 hS hAX hf hL hF
    obtain ⟨t2, a1, b1⟩ := kx E ce q u t T'.heap (locs ++ L) e1.symm (by rw [← e2]; exact X'.warmed.alike) hp hb k1 k2 k3 (by rw [e1]; exact hce) hcv hcl T' rfl X'
    exact ⟨t2, st.trans a1, b1⟩
theorem vx_callv {S SX : Type} {post : S → Prop} {px : SX → Prop} {B : S → State → Prop} {BX : String → SX → State → Prop} {AX : Nat → Prop} (hr : vx_Run p l e R s m args below meth c H locs cells slots mc ms (F0 m pc ls st0) rest (va_Qv post B A1 a) (vx_X px BX AX) free) (hS : va_S A0 H0 H locs) (hA : ∀ q, q < H.size → A1 q → A0 q) (hf : ∀ q, free q → A0 q) (hAX : ∀ q, q < H.size → AX q → A0 q)
    (kx : ∀ (E : String) (ce : Cell) (q9 : Addr) (u : SX) (t : State) (H1 : Heap) (locs1 : List Loc), t.heap = H1 → s.vm.Alike t.vm → px u → BX E u t → H.size ≤ H1.size → (∀ q : Nat, q < H.size → ¬ AX q → H1[q]? = H[q]?) → va_S A0 H0 H1 locs1 → H1[q9]? = some ce → ce.vm = .none → s.vm.findClass E = some ce.cls → vx_W p l e R s m args below meth c H1 locs1 (cells + mc) (slots + ms) Q (F0 m pc ls rest) q9)
    (kk : ∀ (u : S) (t : State) (H1 : Heap) (locs1 : List Loc), t.heap = H1 → s.vm.Alike t.vm → post u → B u t → H.size ≤ H1.size → (∀ q : Nat, q < H.size → ¬ A1 q → H1[q]? = H[q]?) → va_S A0 H0 H1 locs1 → W p l e R s m args below meth c H1 locs1 (cells + mc) (slots + ms) Q (F0 m (pc + 3) ls (rest))) : W p l e R s m args below meth c H locs cells slots Q (F0 m pc ls st0) := by
  intro T hT X
  rcases hr T hT X with ⟨v, st₀, t, T', L, h0, X', hL, e1, e2, ⟨⟨u, hv, hp, hb⟩, hF⟩, st⟩ | ⟨q, st₀, t, T', L, E, ce, h0, X', hL, e1, e2, ⟨u, hp, hb, hF⟩, hce, hcv, hcl, st⟩
  · cases hv
    obtain ⟨k1, k2, k3⟩ := vx_keep h0 e1 hS hA hf hL hF
    obtain ⟨t2, a1, b1⟩ := kk u t T'.heap (locs ++ L) e1.symm (by rw [← e2]; exact X'.warmed.alike) hp hb k1 k2 k3 T' rfl X'
    exact ⟨t2, st t2 a1, b1⟩
  · obtain ⟨k1, k2, k3⟩ := vx_keep h0 e1 hS hAX hf hL hF
    obtain ⟨t2, a1, b1⟩ := kx E ce q u t T'.heap (locs ++ L) e1.symm (by rw [← e2]; exact X'.warmed.alike) hp hb k1 k2 k3 (by rw [e1]; exact hce) hcv hcl T' rfl X'
    exact ⟨t2, st.trans a1, b1⟩
/-- caught by the row x of this method's table; the rows ahead don't take it -/
theorem vx_catch {own name : String} {E : String} {ce : Cell} {q : Addr} (hown : s.vm.findClass own = some m.cls) (pre : List ExceptionTableEntry) (x : ExceptionTableEntry) (suf : List ExceptionTableEntry) (hsplit : c.exceptionTable.toList = pre ++ x :: suf)
    (hpass : ∀ z ∈ pre, covers z pc = false ∨ (z.catchType ≠ 0 ∧ ∃ nm : String, (Cond.classLink own z.catchType nm).before args s = true ∧ va_Nc E nm s)) (hx : covers x pc = true) (h0 : x.catchType ≠ 0)
    (hlink : (Cond.classLink own x.catchType name).before args s = true) (hcast : (Cond.castable E name).before args s = true) (hcell : H[q]? = some ce) (hv : ce.vm = .none) (hcl : s.vm.findClass E = some ce.cls)
    (kk : W p l e R s m args below meth c H locs cells slots Q (F0 m x.handlerPc ls [.ref q])) : vx_W p l e R s m args below meth c H locs cells slots Q (F0 m pc ls rest) q := by
  intro T hT X
  have hpl : e.platform.magicAccessors = ({} : Platform).magicAccessors := by rw [X.admits.platform]
  obtain ⟨c3, c4, hc3, hc4, hasg⟩ := Cond.castable_spec hcast
  cases Option.some.inj (hc3.symm.trans hcl)
  obtain ⟨c5, hc5, hcl5⟩ := Cond.classLink_spec hown hlink e.platform hpl
  cases Option.some.inj (hc4.symm.trans hc5)
  obtain ⟨vm', X', st⟩ := X.thenCaughtThrough q (g := F0 m pc ls rest) rfl (Steps.refl _) (by rw [hT]; exact hcell) (by rw [hv]; rfl) (by obtain ⟨k9, h9, -⟩ := Vm.findClass_spec hcl; exact ⟨k9, h9⟩) pre x suf hsplit
    (fun z hz => by
      rcases hpass z hz with h | ⟨hz0, nm, hl1, hn1⟩
      · exact Or.inl h
      · obtain ⟨c6, hc6, hcl6⟩ := Cond.classLink_spec hown hl1 e.platform hpl
        obtain ⟨a8, b8, h1, h2, h3⟩ := hn1
        cases Option.some.inj (h1.symm.trans hcl)
        cases Option.some.inj (h2.symm.trans hc6)
        exact Or.inr ⟨hz0, _, hcl6, h3⟩) hx (Or.inr ⟨h0, c4, hcl5, hasg⟩)
  obtain ⟨t, a1, b1⟩ := kk (T.setVm vm') hT X'
  exact ⟨t, st.trans a1, b1⟩
end Rows
section Ends
variable {p : Program} {l : Launch} {e : Env} {R : Room} {s : State} {m : MethodId} {args : Array Value} {below : List Frame} {meth : Method} {c : Code} {H : Heap} {locs : List Loc} {cells slots : Nat} {Q : State → Prop}
variable {mc ms : Nat} {free : Addr → Prop} {A0 A1 : Nat → Prop} {H0 : Heap} {a : Array Value} {ls : Array Slot} {st0 rest : List Value}
variable {Qc : Array Value → State → Outcome → State → Prop} {XC : String → State → State → Prop}
/-- what a body that may throw owes at its end -/
def vx_MQ (below : List Frame) (Qc : Array Value → State → Outcome → State → Prop) (XC : String → State → State → Prop) (a : Array Value) (s : State) (mc ms : Nat) (free : Addr → Prop) : State → Prop := fun t =>
  ∃ o, t.status = .running ∧ Ended t below o ∧ vx_Q Qc XC mc ms free a s o t
theorem vx_ret {g : JFrame} {mc ms : Nat} (k : W p l e R s m args below meth c H locs cells slots (MQ below Qc args s mc ms free) g) : W p l e R s m args below meth c H locs cells slots (vx_MQ below Qc XC args s mc ms free) g := by
  intro T hT X
  obtain ⟨t, a1, o, b1, b2, b3, b4⟩ := k T hT X
  exact ⟨t, a1, o, b1, b2, Or.inl ⟨b3, b4⟩⟩
/-- not caught here: it goes on to the caller -/
theorem vx_widen {g : JFrame} {q : Addr} {k n : Nat} (h1 : cells ≤ k) (h2 : slots ≤ n) (kk : vx_W p l e R s m args below meth c H locs k n Q g q) : vx_W p l e R s m args below meth c H locs cells slots Q g q := fun T hT X => kk T hT (stand_widen X h1 h2)
theorem vx_out {pc : Nat} {E : String} {ce : Cell} {q : Addr} {mc ms : Nat} (hout : ∀ x ∈ c.exceptionTable.toList, covers x pc = false) (hlocks : meth.locks = false) (hcell : H[q]? = some ce) (hv : ce.vm = .none) (hcl : s.vm.findClass E = some ce.cls)
    (hx : ∀ t : State, t.heap = H → s.vm.Alike t.vm → XC E s t) (hf : ∀ z ∈ locs, free z.base) (hc : cells ≤ mc) (hs : slots ≤ ms) :
    vx_W p l e R s m args below meth c H locs cells slots (vx_MQ below Qc XC args s mc ms free) (F0 m pc ls rest) q := by
  intro T hT X
  obtain ⟨st1, hrun, hend, hW, hsm⟩ := X.leaveThrown q (g := F0 m pc ls rest) rfl rfl rfl hout hlocks
  have hcell9 : (T.setFrames (.throwing q :: below)).heap[q]? = some ce := by
    show T.heap[q]? = some ce
    rw [hT]; exact hcell
  exact ⟨_, st1, .threw q, hrun, hend, Or.inr ⟨q, rfl, E, ce, locs, hx _ hT hW.alike, hcell9, hv, hcl, hW, hsm.mono hc hs, hf⟩⟩
theorem vx_frame {U : State} {k n : Nat} (h : s.sameButNew ({ U with vm := s.vm } : State) locs k n) : s.heap.size ≤ U.heap.size ∧ ∀ q : Nat, q < s.heap.size → (∀ z ∈ locs, z.base ≠ q) → U.heap[q]? = s.heap[q]? := by
  obtain ⟨-, h2, -, -, -, h6⟩ := h
  refine ⟨h2, fun q hq hz => ?_⟩
  obtain ⟨c9, e1, e2, e3, e4⟩ := h6 q _ (Array.getElem?_eq_getElem hq)
  have hs : c9.slots = (s.heap[q]).slots := Array.ext_getElem? fun i => e4 i fun hm => hz _ hm rfl
  have h9 : c9 = s.heap[q] := by
    rw [hs] at e2
    exact e2
  have e5 : U.heap[q]? = some c9 := e1
  rw [e5, h9, Array.getElem?_eq_getElem hq]
/-- the words of a throw but the four that speak of the heap -/
def vx_no (w : Cond) : Bool := decide (w ≠ .isRef (.static Bundle.tN "UNASSIGNED_STACK" Bundle.steD)) && decide (w ≠ .isRef (.static Bundle.tN "SUPPRESSED_SENTINEL" Bundle.listD)) && decide (w ≠ .laysStatic Bundle.tN "UNASSIGNED_STACK" Bundle.steD) && decide (w ≠ .laysStatic Bundle.tN "SUPPRESSED_SENTINEL" Bundle.listD)
def vx_at0 (own : String) (ic : Nat) (X : String) (names : List String) : List Cond := (Bundle.ownAtoms0 own ic X names).filter vx_no
def vx_atS (own : String) (ic : Nat) (X : String) (names : List String) : List Cond := (Bundle.ownAtoms own ic X names).filter vx_no
/-- a word that the tables alone decide, or a good one -/
def vx_ot (w : Cond) : Bool := w.onTables || goodWord w
theorem vx_ot_at {args a' : Array Value} {s U : State} {w : Cond} (hW : s.WarmedH U.vm) (hvm : s.vm = U.vm) (hg : vx_ot w = true) (h : w.before args s = true) : w.before a' U = true := by
  simp only [vx_ot, Bool.or_eq_true] at hg
  rcases hg with hg | hg
  · exact va_tabs hg hvm h
  · exact word_at hW (good_of_word hg) h
/-- a list's words: the good ones out of the method's own list, the others by premises of their own -/
theorem vx_hat {args : Array Value} {s : State} {L B : List Cond} (h1 : ∀ w ∈ L.filter goodWord, w.before args s = true) (h2 : ∀ w ∈ L.filter (fun w => !goodWord w), w ∈ B) (h3 : ∀ w ∈ B, w.before args s = true) : ∀ w ∈ L, w.before args s = true := by
  intro w hw
  by_cases g : goodWord w = true
  · exact h1 w (List.mem_filter.mpr ⟨hw, g⟩)
  · refine h3 w (h2 w (List.mem_filter.mpr ⟨hw, ?_⟩))
    show (!goodWord w) = true
    cases hgw : goodWord w
    · rfl
    · exact absurd hgw g
theorem vx_c {args : Array Value} {s : State} {w : Cond} {B : List Cond} (h : w.before args s = true) (t : ∀ w ∈ B, w.before args s = true) : ∀ w' ∈ w :: B, w'.before args s = true := fun w' h' => (List.mem_cons.mp h').elim (fun e => by rw [e]; exact h) (t w')
theorem vx_n {args : Array Value} {s : State} : ∀ w ∈ ([] : List Cond), w.before args s = true := fun _ h => nomatch h
theorem vx_own {args : Array Value} {s : State} {L : List Cond} (h1 : ∀ w ∈ L.filter vx_no, w.before args s = true)
    (hU : (Cond.isRef (.static Bundle.tN "UNASSIGNED_STACK" Bundle.steD)).before args s = true) (hN : (Cond.isRef (.static Bundle.tN "SUPPRESSED_SENTINEL" Bundle.listD)).before args s = true)
    (lU : (Cond.laysStatic Bundle.tN "UNASSIGNED_STACK" Bundle.steD).before args s = true) (lN : (Cond.laysStatic Bundle.tN "SUPPRESSED_SENTINEL" Bundle.listD).before args s = true) : ∀ w ∈ L, w.before args s = true := by
  intro w hw
  by_cases e1 : w = .isRef (.static Bundle.tN "UNASSIGNED_STACK" Bundle.steD)
  · rw [e1]; exact hU
  · by_cases e2 : w = .isRef (.static Bundle.tN "SUPPRESSED_SENTINEL" Bundle.listD)
    · rw [e2]; exact hN
    · by_cases e3 : w = .laysStatic Bundle.tN "UNASSIGNED_STACK" Bundle.steD
      · rw [e3]; exact lU
      · by_cases e4 : w = .laysStatic Bundle.tN "SUPPRESSED_SENTINEL" Bundle.listD
        · rw [e4]; exact lN
        · exact h1 w (List.mem_filter.mpr ⟨hw, by unfold vx_no; rw [decide_eq_true e1, decide_eq_true e2, decide_eq_true e3, decide_eq_true e4]; rfl⟩)
/-- where a static field lies, its class's statics cell in H -/
def vx_L (C n d : String) (A : Nat → Prop) (U : State) (H : Heap) : Prop := ∃ (c : ClassId) (k : Class) (i : Nat) (f : Field) (a : Nat) (cell : Cell), U.vm.findClass C = some c ∧ U.fieldFound? C n d = some (c, k, i, f) ∧ f.isStatic = true ∧ k.statics = some a ∧ H[a]? = some cell ∧ cell.vm.isStatics = true ∧ cell.cls = c ∧ f.slot < cell.slots.size ∧ k.staticTypes[f.slot]? = some f.type ∧ ¬ A a
theorem vx_L.moved {C n d : String} {A : Nat → Prop} {u U : State} {H : Heap} (hvm : u.vm.Alike U.vm) (h : vx_L C n d A u H) : vx_L C n d A U H := by
  obtain ⟨c, k, i, f, a, cell, h1, h2, h3, h4, h5, h6, h7, h8, h9, h10⟩ := h
  obtain ⟨k', hi', he⟩ := State.fieldFound?_setVm hvm h2
  exact ⟨c, k', i, f, a, cell, by rw [hvm.findClass]; exact h1, hi', h3, by rw [he]; exact h4, h5, h6, h7, h8, by rw [he]; exact h9, h10⟩
theorem vx_L.kept {C n d : String} {A : Nat → Prop} {U : State} {H H1 : Heap} (h : vx_L C n d A U H) (hq : ∀ a : Nat, a < H.size → ¬ A a → H1[a]? = H[a]?) : vx_L C n d A U H1 := by
  obtain ⟨c, k, i, f, a, cell, h1, h2, h3, h4, h5, h6, h7, h8, h9, h10⟩ := h
  exact ⟨c, k, i, f, a, cell, h1, h2, h3, h4, by rw [hq a (Array.getElem?_eq_some_iff.mp h5).1 h10]; exact h5, h6, h7, h8, h9, h10⟩
theorem vx_L.narrow {C n d : String} {A B : Nat → Prop} {U : State} {H : Heap} (h : vx_L C n d A U H) (hAB : ∀ q, B q → A q) : vx_L C n d B U H := by
  obtain ⟨c, k, i, f, a, cell, h1, h2, h3, h4, h5, h6, h7, h8, h9, h10⟩ := h
  exact ⟨c, k, i, f, a, cell, h1, h2, h3, h4, h5, h6, h7, h8, h9, fun z => h10 (hAB _ z)⟩
theorem vx_L.word {C n d : String} {A : Nat → Prop} {s : State} {args : Array Value} (h : vx_L C n d A s s.heap) : (Cond.laysStatic C n d).before args s = true := by
  obtain ⟨c, k, i, f, a, cell, h1, h2, h3, h4, h5, h6, h7, h8, h9, -⟩ := h
  show (Cond.laysStatic C n d).holds args s none s [] = true
  exact Cond.laysStatic_of h1 h2 h3 h4 h5 h6 h7 h8 h9
/-- .. and what it holds: null or some reference -/
def vx_Zq (C n d : String) (A : Nat → Prop) (U : State) (H : Heap) : Prop := va_Zq C n d A U H ∧ vx_L C n d A U H
theorem vx_Zq.moved {C n d : String} {A : Nat → Prop} {u U : State} {H : Heap} (hvm : u.vm.Alike U.vm) (h : vx_Zq C n d A u H) : vx_Zq C n d A U H := ⟨va_Zq.moved hvm h.1, vx_L.moved hvm h.2⟩
theorem vx_Zq.kept {C n d : String} {A : Nat → Prop} {U : State} {H H1 : Heap} (h : vx_Zq C n d A U H) (hq : ∀ a : Nat, a < H.size → ¬ A a → H1[a]? = H[a]?) : vx_Zq C n d A U H1 := ⟨va_Zq.kept h.1 hq, vx_L.kept h.2 hq⟩
theorem vx_Zq.narrow {C n d : String} {A B : Nat → Prop} {U : State} {H : Heap} (h : vx_Zq C n d A U H) (hAB : ∀ q, B q → A q) : vx_Zq C n d B U H := ⟨va_Zq.narrow h.1 hAB, vx_L.narrow h.2 hAB⟩
theorem vx_Zqof {args : Array Value} {s : State} {C n d : String} {A : Nat → Prop} (hl : (Cond.laysStatic C n d).before args s = true) (hini : (Cond.initialized C).before args s = true) (h : (Cond.isRef (.static C n d)).before args s = true) (hA : ∀ a : Nat, a < s.heap.size → ¬ A a) : vx_Zq C n d A s s.heap := by
  refine ⟨va_Zqof hl hini h hA, ?_⟩
  obtain ⟨c, k, i, f, a, cell, h1, h2, h3, h4, h5, h6, h7, h8, h9⟩ := Cond.laysStatic_spec hl
  exact ⟨c, k, i, f, a, cell, h1, h2, h3, h4, h5, h6, h7, h8, h9, hA a (Array.getElem?_eq_some_iff.mp h5).1⟩
theorem vx_isRef {C n d : String} {v : Value} {A : Nat → Prop} {s : State} {args : Array Value} (h : va_Z C n d v A s s.heap) (hv : v.isRef = true) : (Cond.isRef (.static C n d)).before args s = true := by
  obtain ⟨cf, kf, fi, f, a, cell, h1, h2, h3, h4, h5, h6, h7, -⟩ := h
  have he : (Term.static C n d).eval args s none [] s = some v := by
    simp [Term.eval, State.fieldNamed?, h1, h2, h4, h5, h6, h7]
  simp only [Cond.before, Cond.holds, Cond.value, he]
  cases v <;> simp_all [Value.isRef]
theorem vx_isRefq {C n d : String} {A : Nat → Prop} {s : State} {args : Array Value} (h : va_Zq C n d A s s.heap) : (Cond.isRef (.static C n d)).before args s = true := by
  rcases h with h | ⟨t, h⟩
  · exact vx_isRef h rfl
  · exact vx_isRef h rfl
/-- the same frame, seen from here: as if the method were called anew in this heap -/
theorem vx_rebase {T : State} (X : Stand p l e R s m args below meth c T locs cells slots) {R' : Room} (hf : R'.frames ≤ R.frames) (hl : R'.locals ≤ R.locals) (hc : cells + R'.cells ≤ R.cells) (hs : slots + R'.slots ≤ R.slots) :
    Stand p l e R' ((T.setVm s.vm).setFrames (.invoking m args :: below)) m args below meth c T [] 0 0 := by
  have htop : (T.setVm s.vm).topJava?.isSome := X.here.top
  have hF : ((T.setVm s.vm).setFrames (.invoking m args :: below)).frames = .invoking m args :: below := State.frames_setFrames _ (State.cur_lt_of_top htop)
  obtain ⟨g₀, hg0⟩ := Option.isSome_iff_exists.mp htop
  obtain ⟨r, hr⟩ := State.topJava?_eq_some.mp hg0
  have hl9 : e.platform.stackLimits (T.setVm s.vm).me = e.platform.stackLimits s.me := X.limits
  have hb9 : (T.setVm s.vm).me.stackBytes = s.me.stackBytes := X.bytes
  refine ⟨X.admits, X.cas, X.clock, hF, ?_, X.hears, X.method, X.code, X.here, X.tail, X.warmed, ?_, ?_, ?_⟩
  · have h := X.room
    have hU : ((T.setVm s.vm).setFrames (.invoking m args :: below)).localsInUse = s.localsInUse := by
      rw [State.localsInUse_invoking hF (meth := meth) (c := c) X.method X.code, State.localsInUse_invoking X.frames X.method X.code]
    simp only [State.hasRoom, Bool.and_eq_true, decide_eq_true_eq] at h ⊢
    obtain ⟨⟨⟨⟨h1, h2, h3, h4, h5, h6⟩, h7⟩, h8⟩, h9⟩ := h
    rw [X.frames, List.length_cons] at h2 h3
    have q1 := X.heapSize
    have q2 := X.used
    simp only [hF, hU, List.length_cons, State.stackLimits_setFrames, State.stackBytes_setFrames, hl9, hb9]
    refine ⟨⟨⟨⟨by omega, by omega, by omega, by omega, by omega, h6⟩, ?_⟩, ?_⟩, X.book⟩
    · show T.heap.size + R'.cells ≤ e.platform.maxCells
      omega
    · show T.slotsUsed + R'.slots ≤ e.platform.maxSlots
      omega
  · rw [State.stackLimits_setFrames]; rfl
  · rw [State.stackBytes_setFrames]; rfl
  · refine ⟨?_, Nat.le_refl _, Nat.le_refl _, ?_, ?_, fun a c9 h9 => ⟨c9, h9, rfl, rfl, fun _ _ => rfl⟩⟩
    · obtain ⟨t, ht, -⟩ := State.frames_cons hr
      show T.setVm s.vm = { ((T.setVm s.vm).setFrames (.invoking m args :: below)).setFrames (T.setVm s.vm).frames with heap := T.heap, slotsUsed := T.slotsUsed }
      rw [State.setFrames_setFrames, State.setFrames_self ht]
      rfl
    · show T.slotsUsed = T.slotsUsed + ((T.heap.toList.drop T.heap.size).map (·.slots.size)).sum
      rw [List.drop_eq_nil_of_le (Nat.le_of_eq Array.length_toList)]
      rfl
    · show ((T.heap.toList.drop T.heap.size).map (·.slots.size)).sum ≤ 0
      rw [List.drop_eq_nil_of_le (Nat.le_of_eq Array.length_toList)]
      exact Nat.le_refl _
/-- 'throw new E()': new; dup; invokespecial; athrow -/
theorem vx_throw0 {cc : ByteArray} {pc : Nat} (hexec : p.tables.exec = Jvm.exec) (hb : c.code = cc) (hl : l.stackTraces = false) {own cls : String} {names : List String} {ik ic mc ms : Nat} {A : Nat → Prop}
    (hown : s.vm.findClass own = some m.cls) (hcls : Bundle.fit cls = true) (hnames : ∀ n ∈ names, Bundle.fit n = true)
    (hk : (Cond.classLink own ik cls).before args s = true) (hini : (Cond.initialized cls).before args s = true) (hat : ∀ w ∈ vx_at0 own ic cls names, w.before args s = true)
    (hgood : ∀ w ∈ Cond.classLink own ik cls :: Cond.initialized cls :: vx_at0 own ic cls names, vx_ot w = true)
    (hU : vx_Zq Bundle.tN "UNASSIGNED_STACK" Bundle.steD A s s.heap) (hN : vx_Zq Bundle.tN "SUPPRESSED_SENTINEL" Bundle.listD A s s.heap) (hS : va_S A s.heap H locs) (hsize : ls.size = c.maxLocals)
    (d0 : decode cc pc = .ok (.new ik, 3)) (d3 : decode cc (pc + 3) = .ok (.dup, 1)) (d4 : decode cc (pc + 4) = .ok (.invokespecial ic, 3)) (d7 : decode cc (pc + 7) = .ok (.athrow, 1))
    (hout : ∀ x ∈ c.exceptionTable.toList, covers x (pc + 7) = false)
    (hRframes : names.length + 3 < R.frames) (hRlocals : (rest.map fun v => v.category).sum + (13 * (names.length + 1) + 42) ≤ R.locals) (hRcells : cells + 1 ≤ R.cells) (hRslots : slots + 6 ≤ R.slots) (hlocks : meth.locks = false)
    (hx : ∀ t : State, s.vm.Alike t.vm → H.size ≤ t.heap.size → (∀ q : Nat, q < H.size → t.heap[q]? = H[q]?) → XC cls s t)
    (hf : ∀ z ∈ locs, free z.base) (hc : cells + 1 ≤ mc) (hs : slots + 6 ≤ ms) :
    W p l e R s m args below meth c H locs cells slots (vx_MQ below Qc XC args s mc ms free) (F0 m pc ls rest) := by
  intro T hT X
  have htr : e.platform.stackTraces = false := (show e.platform.stackTraces = l.stackTraces by rw [X.admits.platform]).trans hl
  have Y := vx_rebase X (R' := { frames := R.frames, locals := R.locals, cells := 1, slots := 6 }) (Nat.le_refl _) (Nat.le_refl _) hRcells hRslots
  obtain ⟨s', hA⟩ : ∃ z, z = (T.setVm s.vm).setFrames (.invoking m args :: below) := ⟨_, rfl⟩
  rw [← hA] at Y
  have hvm : s'.vm = s.vm := by rw [hA]; rfl
  have hhp : s'.heap = H := by rw [hA]; exact hT
  have hW0 : s.WarmedH s'.vm := by rw [hvm]; exact State.WarmedH.refl s
  have hat' : ∀ w ∈ vx_at0 own ic cls names, w.before args s' = true := fun w hw => vx_ot_at hW0 hvm.symm (hgood w (List.mem_cons_of_mem _ (List.mem_cons_of_mem _ hw))) (hat w hw)
  have hk' : (Cond.classLink own ik cls).before args s' = true := vx_ot_at hW0 hvm.symm (hgood _ List.mem_cons_self) hk
  have hini' : (Cond.initialized cls).before args s' = true := vx_ot_at hW0 hvm.symm (hgood _ (List.mem_cons_of_mem _ List.mem_cons_self)) hini
  have hU' : vx_Zq Bundle.tN "UNASSIGNED_STACK" Bundle.steD A s' s'.heap := by rw [hhp]; exact vx_Zq.moved hW0.alike (hU.kept hS.2.1)
  have hN' : vx_Zq Bundle.tN "SUPPRESSED_SENTINEL" Bundle.listD A s' s'.heap := by rw [hhp]; exact vx_Zq.moved hW0.alike (hN.kept hS.2.1)
  have h : ∀ w ∈ Bundle.ownAtoms0 own ic cls names, w.before args s' = true := vx_own hat' (vx_isRefq hU'.1) (vx_isRefq hN'.1) hU'.2.word hN'.2.word
  have hown' : s'.vm.findClass own = some m.cls := by rw [hvm]; exact hown
  have hins : (Cond.instantiable cls 6).before args s' = true := h _ (by simp [Bundle.ownAtoms0])
  obtain ⟨vm₁, cX, kX, hfX, hkX, -, -, X₁, st1⟩ := Y.newCold hexec (own := own) (C := cls) (index := ik) (n := 6) hown' hk' hins hini'
    (g := F0 m pc ls rest) rfl (by rw [hb]; exact d0) (Nat.le_refl _) (Nat.le_refl _)
  generalize hT1 : (T.setVm vm₁).pushCell { cls := cX, slots := kX.instanceTypes.map defaultValue, vm := .none } = T1 at X₁ st1
  have hcat : (Value.ref T.heap.size).category = 1 := rfl
  have hcellA : T1.heap[T.heap.size]? = some (freshCell cX kX) := by rw [← hT1]; exact State.heap_pushCell_size _ _
  have d3' : decode c.code (pc + 3) = .ok (.dup, 1) := by rw [hb]; exact d3
  obtain ⟨U, hsteps, hrun, hend, hW, hsame, ce, hce, hO⟩ := X₁.ctorThrow0 hexec htr (own := own) (cls := cls) (names := names) (ic := ic) hown' hcls hnames h (fun x hx => nomatch hx) hfX hkX hcellA (by rw [hhp, hT]; exact Nat.le_refl _)
    (g := { method := m, pc := pc + 4, locals := ls, stack := .ref T.heap.size :: .ref T.heap.size :: rest, locked := none }) rfl hsize rfl rfl (rest := rest) rfl
    (by rw [hb]; exact d4) (by rw [hb]; exact d7) hout hRframes (by simp only [List.map_cons, List.sum_cons, hcat]; omega) hlocks
  obtain ⟨f1, f2⟩ := vx_frame hsame
  rw [hhp] at f1 f2
  have hWs : s.WarmedH U.vm := State.WarmedH.trans hW0 hW
  have hcl : s.vm.findClass cls = some ce.cls := by
    have h9 := hO.cls
    rw [hvm] at h9
    exact h9
  have hall : s.sameButNew ({ U with vm := s.vm } : State) locs mc ms := by
    subst hA
    obtain ⟨e1, e2⟩ := hsame
    rw [State.setFrames_setFrames] at e1
    have h2 : (T.setVm s.vm).sameButNew ({ U with vm := s.vm } : State) [] (0 + 1) (0 + 6) := ⟨e1, e2⟩
    have h3 := X.same.trans h2
    rw [List.append_nil] at h3
    exact h3.mono hc hs
  refine ⟨U, ?_, .threw T.heap.size, hrun, hend, Or.inr ⟨T.heap.size, rfl, cls, ce, locs, hx U hWs.alike f1 (fun q hq => f2 q hq (fun z hz => nomatch hz)), hce, hO.vm, hcl, hWs, hall, hf⟩⟩
  refine st1 _ ?_
  show Steps p.tables e below (T1.setTop { method := m, pc := pc + 3, locals := ls, stack := .ref T.heap.size :: rest, locked := none }) _
  jvm_step X₁.here [X₁.here.top, hexec, d3', Value.category]
  exact hsteps
/-- 'throw new E("text")': new; dup; ldc; invokespecial; athrow -/
theorem vx_throwS {cc : ByteArray} {pc : Nat} (hexec : p.tables.exec = Jvm.exec) (hb : c.code = cc) (hl : l.stackTraces = false) {own cls text : String} {names : List String} {ik is ic mc ms sa : Nat} {A : Nat → Prop}
    (hown : s.vm.findClass own = some m.cls) (hcls : Bundle.fit cls = true) (hnames : ∀ n ∈ names, Bundle.fit n = true)
    (hk : (Cond.classLink own ik cls).before args s = true) (hini : (Cond.initialized cls).before args s = true) (hstr : vk_R own is text sa s) (hat : ∀ w ∈ vx_atS own ic cls names, w.before args s = true)
    (hgood : ∀ w ∈ Cond.classLink own ik cls :: Cond.initialized cls :: vx_atS own ic cls names, vx_ot w = true)
    (hU : vx_Zq Bundle.tN "UNASSIGNED_STACK" Bundle.steD A s s.heap) (hN : vx_Zq Bundle.tN "SUPPRESSED_SENTINEL" Bundle.listD A s s.heap) (hS : va_S A s.heap H locs) (hsize : ls.size = c.maxLocals)
    (d0 : decode cc pc = .ok (.new ik, 3)) (d3 : decode cc (pc + 3) = .ok (.dup, 1)) (d4 : decode cc (pc + 4) = .ok (.ldc is, 2)) (d6 : decode cc (pc + 6) = .ok (.invokespecial ic, 3)) (d9 : decode cc (pc + 9) = .ok (.athrow, 1))
    (hout : ∀ x ∈ c.exceptionTable.toList, covers x (pc + 9) = false)
    (hRframes : names.length + 3 < R.frames) (hRlocals : (rest.map fun v => v.category).sum + (13 * (names.length + 1) + 43) ≤ R.locals) (hRcells : cells + 1 ≤ R.cells) (hRslots : slots + 6 ≤ R.slots) (hlocks : meth.locks = false)
    (hx : ∀ t : State, s.vm.Alike t.vm → H.size ≤ t.heap.size → (∀ q : Nat, q < H.size → t.heap[q]? = H[q]?) → XC cls s t)
    (hf : ∀ z ∈ locs, free z.base) (hc : cells + 1 ≤ mc) (hs : slots + 6 ≤ ms) :
    W p l e R s m args below meth c H locs cells slots (vx_MQ below Qc XC args s mc ms free) (F0 m pc ls rest) := by
  intro T hT X
  have htr : e.platform.stackTraces = false := (show e.platform.stackTraces = l.stackTraces by rw [X.admits.platform]).trans hl
  have Y := vx_rebase X (R' := { frames := R.frames, locals := R.locals, cells := 1, slots := 6 }) (Nat.le_refl _) (Nat.le_refl _) hRcells hRslots
  obtain ⟨s', hA⟩ : ∃ z, z = (T.setVm s.vm).setFrames (.invoking m args :: below) := ⟨_, rfl⟩
  rw [← hA] at Y
  have hvm : s'.vm = s.vm := by rw [hA]; rfl
  have hhp : s'.heap = H := by rw [hA]; exact hT
  have hW0 : s.WarmedH s'.vm := by rw [hvm]; exact State.WarmedH.refl s
  have hat' : ∀ w ∈ vx_atS own ic cls names, w.before args s' = true := fun w hw => vx_ot_at hW0 hvm.symm (hgood w (List.mem_cons_of_mem _ (List.mem_cons_of_mem _ hw))) (hat w hw)
  have hk' : (Cond.classLink own ik cls).before args s' = true := vx_ot_at hW0 hvm.symm (hgood _ List.mem_cons_self) hk
  have hini' : (Cond.initialized cls).before args s' = true := vx_ot_at hW0 hvm.symm (hgood _ (List.mem_cons_of_mem _ List.mem_cons_self)) hini
  have hU' : vx_Zq Bundle.tN "UNASSIGNED_STACK" Bundle.steD A s' s'.heap := by rw [hhp]; exact vx_Zq.moved hW0.alike (hU.kept hS.2.1)
  have hN' : vx_Zq Bundle.tN "SUPPRESSED_SENTINEL" Bundle.listD A s' s'.heap := by rw [hhp]; exact vx_Zq.moved hW0.alike (hN.kept hS.2.1)
  have h : ∀ w ∈ Bundle.ownAtoms own ic cls names, w.before args s' = true := vx_own hat' (vx_isRefq hU'.1) (vx_isRefq hN'.1) hU'.2.word hN'.2.word
  have hown' : s'.vm.findClass own = some m.cls := by rw [hvm]; exact hown
  have hins : (Cond.instantiable cls 6).before args s' = true := h _ (by simp [Bundle.ownAtoms])
  obtain ⟨vm₁, cX, kX, hfX, hkX, -, -, X₁, st1⟩ := Y.newCold hexec (own := own) (C := cls) (index := ik) (n := 6) hown' hk' hins hini'
    (g := F0 m pc ls rest) rfl (by rw [hb]; exact d0) (Nat.le_refl _) (Nat.le_refl _)
  generalize hT1 : (T.setVm vm₁).pushCell { cls := cX, slots := kX.instanceTypes.map defaultValue, vm := .none } = T1 at X₁ st1
  have hcat : (Value.ref T.heap.size).category = 1 := rfl
  have hcellA : T1.heap[T.heap.size]? = some (freshCell cX kX) := by rw [← hT1]; exact State.heap_pushCell_size _ _
  have d3' : decode c.code (pc + 3) = .ok (.dup, 1) := by rw [hb]; exact d3
  have d4' : decode c.code (pc + 4) = .ok (.ldc is, 2) := by rw [hb]; exact d4
  have hstr' : vk_R own is text sa s' := vk_R.warm hW0 hstr
  obtain ⟨U, hsteps, hrun, hend, hW, hsame, ce, hce, hO⟩ := X₁.ctorThrowS hexec htr (own := own) (cls := cls) (names := names) (ic := ic) hown' hcls hnames h (fun x hx => nomatch hx) hfX hkX hcellA (by rw [hhp, hT]; exact Nat.le_refl _) (msg := .ref sa) rfl
    (g := { method := m, pc := pc + 6, locals := ls, stack := .ref sa :: .ref T.heap.size :: .ref T.heap.size :: rest, locked := none }) rfl hsize rfl rfl (rest := rest) rfl
    (by rw [hb]; exact d6) (by rw [hb]; exact d9) hout hRframes (by simp only [List.map_cons, List.sum_cons, hcat]; omega) hlocks
  obtain ⟨f1, f2⟩ := vx_frame hsame
  rw [hhp] at f1 f2
  have hWs : s.WarmedH U.vm := State.WarmedH.trans hW0 hW
  have hcl : s.vm.findClass cls = some ce.cls := by
    have h9 := hO.cls
    rw [hvm] at h9
    exact h9
  have hall : s.sameButNew ({ U with vm := s.vm } : State) locs mc ms := by
    subst hA
    obtain ⟨e1, e2⟩ := hsame
    rw [State.setFrames_setFrames] at e1
    have h2 : (T.setVm s.vm).sameButNew ({ U with vm := s.vm } : State) [] (0 + 1) (0 + 6) := ⟨e1, e2⟩
    have h3 := X.same.trans h2
    rw [List.append_nil] at h3
    exact h3.mono hc hs
  refine ⟨U, ?_, .threw T.heap.size, hrun, hend, Or.inr ⟨T.heap.size, rfl, cls, ce, locs, hx U hWs.alike f1 (fun q hq => f2 q hq (fun z hz => nomatch hz)), hce, hO.vm, hcl, hWs, hall, hf⟩⟩
  refine st1 _ ?_
  show Steps p.tables e below (T1.setTop { method := m, pc := pc + 3, locals := ls, stack := .ref T.heap.size :: rest, locked := none }) _
  jvm_step X₁.here [X₁.here.top, hexec, d3', Value.category]
  exact X₁.ldcString hexec (own := own) (text := text) (index := is) (a := sa) hown' hstr'.1 hstr'.2
    (g := { method := m, pc := pc + 4, locals := ls, stack := .ref T.heap.size :: .ref T.heap.size :: rest, locked := none }) rfl d4' _ hsteps
/-- 'throw new E("text")', the text by a wide index -/
theorem vx_throwSW {cc : ByteArray} {pc : Nat} (hexec : p.tables.exec = Jvm.exec) (hb : c.code = cc) (hl : l.stackTraces = false) {own cls text : String} {names : List String} {ik is ic mc ms sa : Nat} {A : Nat → Prop}
    (hown : s.vm.findClass own = some m.cls) (hcls : Bundle.fit cls = true) (hnames : ∀ n ∈ names, Bundle.fit n = true)
    (hk : (Cond.classLink own ik cls).before args s = true) (hini : (Cond.initialized cls).before args s = true) (hstr : vk_R own is text sa s) (hat : ∀ w ∈ vx_atS own ic cls names, w.before args s = true)
    (hgood : ∀ w ∈ Cond.classLink own ik cls :: Cond.initialized cls :: vx_atS own ic cls names, vx_ot w = true)
    (hU : vx_Zq Bundle.tN "UNASSIGNED_STACK" Bundle.steD A s s.heap) (hN : vx_Zq Bundle.tN "SUPPRESSED_SENTINEL" Bundle.listD A s s.heap) (hS : va_S A s.heap H locs) (hsize : ls.size = c.maxLocals)
    (d0 : decode cc pc = .ok (.new ik, 3)) (d3 : decode cc (pc + 3) = .ok (.dup, 1)) (d4 : decode cc (pc + 4) = .ok (.ldc_w is, 3)) (d7 : decode cc (pc + 7) = .ok (.invokespecial ic, 3)) (d10 : decode cc (pc + 10) = .ok (.athrow, 1))
    (hout : ∀ x ∈ c.exceptionTable.toList, covers x (pc + 10) = false)
    (hRframes : names.length + 3 < R.frames) (hRlocals : (rest.map fun v => v.category).sum + (13 * (names.length + 1) + 43) ≤ R.locals) (hRcells : cells + 1 ≤ R.cells) (hRslots : slots + 6 ≤ R.slots) (hlocks : meth.locks = false)
    (hx : ∀ t : State, s.vm.Alike t.vm → H.size ≤ t.heap.size → (∀ q : Nat, q < H.size → t.heap[q]? = H[q]?) → XC cls s t)
    (hf : ∀ z ∈ locs, free z.base) (hc : cells + 1 ≤ mc) (hs : slots + 6 ≤ ms) :
    W p l e R s m args below meth c H locs cells slots (vx_MQ below Qc XC args s mc ms free) (F0 m pc ls rest) := by
  intro T hT X
  have htr : e.platform.stackTraces = false := (show e.platform.stackTraces = l.stackTraces by rw [X.admits.platform]).trans hl
  have Y := vx_rebase X (R' := { frames := R.frames, locals := R.locals, cells := 1, slots := 6 }) (Nat.le_refl _) (Nat.le_refl _) hRcells hRslots
  obtain ⟨s', hA⟩ : ∃ z, z = (T.setVm s.vm).setFrames (.invoking m args :: below) := ⟨_, rfl⟩
  rw [← hA] at Y
  have hvm : s'.vm = s.vm := by rw [hA]; rfl
  have hhp : s'.heap = H := by rw [hA]; exact hT
  have hW0 : s.WarmedH s'.vm := by rw [hvm]; exact State.WarmedH.refl s
  have hat' : ∀ w ∈ vx_atS own ic cls names, w.before args s' = true := fun w hw => vx_ot_at hW0 hvm.symm (hgood w (List.mem_cons_of_mem _ (List.mem_cons_of_mem _ hw))) (hat w hw)
  have hk' : (Cond.classLink own ik cls).before args s' = true := vx_ot_at hW0 hvm.symm (hgood _ List.mem_cons_self) hk
  have hini' : (Cond.initialized cls).before args s' = true := vx_ot_at hW0 hvm.symm (hgood _ (List.mem_cons_of_mem _ List.mem_cons_self)) hini
  have hU' : vx_Zq Bundle.tN "UNASSIGNED_STACK" Bundle.steD A s' s'.heap := by rw [hhp]; exact vx_Zq.moved hW0.alike (hU.kept hS.2.1)
  have hN' : vx_Zq Bundle.tN "SUPPRESSED_SENTINEL" Bundle.listD A s' s'.heap := by rw [hhp]; exact vx_Zq.moved hW0.alike (hN.kept hS.2.1)
  have h : ∀ w ∈ Bundle.ownAtoms own ic cls names, w.before args s' = true := vx_own hat' (vx_isRefq hU'.1) (vx_isRefq hN'.1) hU'.2.word hN'.2.word
  have hown' : s'.vm.findClass own = some m.cls := by rw [hvm]; exact hown
  have hins : (Cond.instantiable cls 6).before args s' = true := h _ (by simp [Bundle.ownAtoms])
  obtain ⟨vm₁, cX, kX, hfX, hkX, -, -, X₁, st1⟩ := Y.newCold hexec (own := own) (C := cls) (index := ik) (n := 6) hown' hk' hins hini'
    (g := F0 m pc ls rest) rfl (by rw [hb]; exact d0) (Nat.le_refl _) (Nat.le_refl _)
  generalize hT1 : (T.setVm vm₁).pushCell { cls := cX, slots := kX.instanceTypes.map defaultValue, vm := .none } = T1 at X₁ st1
  have hcat : (Value.ref T.heap.size).category = 1 := rfl
  have hcellA : T1.heap[T.heap.size]? = some (freshCell cX kX) := by rw [← hT1]; exact State.heap_pushCell_size _ _
  have d3' : decode c.code (pc + 3) = .ok (.dup, 1) := by rw [hb]; exact d3
  have d4' : decode c.code (pc + 4) = .ok (.ldc_w is, 3) := by rw [hb]; exact d4
  have hstr' : vk_R own is text sa s' := vk_R.warm hW0 hstr
  obtain ⟨U, hsteps, hrun, hend, hW, hsame, ce, hce, hO⟩ := X₁.ctorThrowS hexec htr (own := own) (cls := cls) (names := names) (ic := ic) hown' hcls hnames h (fun x hx => nomatch hx) hfX hkX hcellA (by rw [hhp, hT]; exact Nat.le_refl _) (msg := .ref sa) rfl
    (g := { method := m, pc := pc + 7, locals := ls, stack := .ref sa :: .ref T.heap.size :: .ref T.heap.size :: rest, locked := none }) rfl hsize rfl rfl (rest := rest) rfl
    (by rw [hb]; exact d7) (by rw [hb]; exact d10) hout hRframes (by simp only [List.map_cons, List.sum_cons, hcat]; omega) hlocks
  obtain ⟨f1, f2⟩ := vx_frame hsame
  rw [hhp] at f1 f2
  have hWs : s.WarmedH U.vm := State.WarmedH.trans hW0 hW
  have hcl : s.vm.findClass cls = some ce.cls := by
    have h9 := hO.cls
    rw [hvm] at h9
    exact h9
  have hall : s.sameButNew ({ U with vm := s.vm } : State) locs mc ms := by
    subst hA
    obtain ⟨e1, e2⟩ := hsame
    rw [State.setFrames_setFrames] at e1
    have h2 : (T.setVm s.vm).sameButNew ({ U with vm := s.vm } : State) [] (0 + 1) (0 + 6) := ⟨e1, e2⟩
    have h3 := X.same.trans h2
    rw [List.append_nil] at h3
    exact h3.mono hc hs
  refine ⟨U, ?_, .threw T.heap.size, hrun, hend, Or.inr ⟨T.heap.size, rfl, cls, ce, locs, hx U hWs.alike f1 (fun q hq => f2 q hq (fun z hz => nomatch hz)), hce, hO.vm, hcl, hWs, hall, hf⟩⟩
  refine st1 _ ?_
  show Steps p.tables e below (T1.setTop { method := m, pc := pc + 3, locals := ls, stack := .ref T.heap.size :: rest, locked := none }) _
  jvm_step X₁.here [X₁.here.top, hexec, d3', Value.category]
  exact X₁.ldcStringW hexec (own := own) (text := text) (index := is) (a := sa) hown' hstr'.1 hstr'.2
    (g := { method := m, pc := pc + 4, locals := ls, stack := .ref T.heap.size :: .ref T.heap.size :: rest, locked := none }) rfl d4' _ hsteps
end Ends
section Bodies
variable {l : Launch}
theorem vx_ofW {y : MethodName} {ws ws' : List Cond} {rm : Room} {Pc : Array Value → State → Prop} {Qc : Array Value → State → Outcome → State → Prop} {XC : String → State → State → Prop} {mc ms : Nat} {free : Addr → Prop} {cc : ByteArray} {maxL : Nat} {ret : Option FieldType}
    (hy : plainName y.cls = true) (hw : ws = Cond.code y cc maxL ret :: ws')
    (body : ∀ p e s m args below meth c s₁, BodyLoose p l y (headSpec ws rm) cc maxL ret e s m args below meth c s₁ → c.maxLocals = maxL → (∀ x ∈ c.exceptionTable.toList, False) → Pc args s →
      W p l e (headSpec ws rm).room s m args below meth c s.heap [] 0 0 (vx_MQ below Qc XC args s mc ms free) (entryFrame m args maxL)) : vx_Met l y ws rm Pc Qc XC mc ms free := by
  refine MetFree.of_bodyS (code := cc) (maxLocals := maxL) (ret := ret) hy ?_ ?_
  · intro args s m h hn
    obtain ⟨meth, c, h1, h2, h3, h4, h5, h6, -, -⟩ := Cond.code_spec hn (atoms_spec (ws := ws) h _ (by rw [hw]; exact List.mem_cons_self))
    exact ⟨meth, c, h1, h2, h3, h4, h5, h6⟩
  · intro p e s m args below meth c s₁ B hml hP _
    have hh0 : s₁.heap = s.heap := by rw [B.state]; rfl
    have ht : ∀ x ∈ c.exceptionTable.toList, False := by
      obtain ⟨meth9, c9, h1, h2, -, -, -, -, h7, -⟩ := Cond.code_spec B.named (atoms_spec (ws := ws) B.pre _ (by rw [hw]; exact List.mem_cons_self))
      cases Option.some.inj (h1.symm.trans B.method)
      cases Option.some.inj (h2.symm.trans (Stand.of_body B).code)
      intro x hx
      rw [Array.isEmpty_iff.mp h7] at hx
      cases hx
    obtain ⟨t, a1, o, b1, b2, b3⟩ := body p e s m args below meth c s₁ B hml ht hP s₁ hh0 (Stand.of_body B)
    exact ⟨t, o, a1, b1, b2, b3⟩
/-- the table of a body with handlers -/
theorem vx_table {p : Program} {x y : MethodName} {S : Spec} {cc bytes : ByteArray} {maxL maxL' : Nat} {ret ret' : Option FieldType} {e : Env} {s s₁ : State} {m : MethodId} {args : Array Value} {below : List Frame} {meth : Method} {c : Code} {hh : List (Nat × Nat × Nat × Nat)}
    (B : BodyLoose p l y S cc maxL ret e s m args below meth c s₁) (h : (Cond.codeWith y bytes maxL' ret' hh).before args s = true) : c.exceptionTable.toList = tableOf hh := by
  obtain ⟨m9, meth9, c9, hn9, h1, h2, -, -, h6, -⟩ := Cond.codeWith_spec h
  cases Option.some.inj (hn9.symm.trans B.named)
  cases Option.some.inj (h1.symm.trans B.method)
  cases Option.some.inj (h2.symm.trans (Stand.of_body B).code)
  rw [← h6, table_eq]
end Bodies
end VXA
/-! ===== END ===== -/
/-! ===== BEGIN a static call of a method with an exception table ===== -/
section VXS
variable {p : Program} {l : Launch} {e : Env} {R : Room} {s : State} {m : MethodId} {args : Array Value} {below : List Frame} {meth : Method} {c : Code} {T : State} {H : Heap} {locs : List Loc} {cells slots : Nat}
abbrev vx_CSW (R : Room) (s : State) (args : Array Value) (own : String) (index : Nat) (y : MethodName) (bytes : ByteArray) (maxL : Nat) (ret : Option FieldType) (hh : List (Nat × Nat × Nat × Nat)) (ws : List Cond) (rm : Room) (mc ms n : Nat) : Prop :=
  (rm.cells = mc ∧ rm.slots = ms ∧ rm.frames + 1 ≤ R.frames ∧ 8 + (maxL + 11) + rm.locals ≤ R.locals ∧ (∀ w ∈ ws, ∀ (a' : Array Value) (U : State), s.WarmedH U.vm → w.before a' U = true) ∧ Cond.codeWith y bytes maxL ret hh ∈ ws) ∧
  (Cond.codeWith y bytes maxL ret hh).before args s = true ∧ (Cond.initialized y.cls).before args s = true ∧ (y.cls ≠ "java/lang/invoke/MethodHandle" ∧ y.cls ≠ "java/lang/invoke/VarHandle") ∧
  (∀ sig, parseMethodDescriptor y.desc = some sig → n = sig.parameters.length) ∧ (Cond.methodLink own index y).before args s = true ∧ (Cond.static y).before args s = true
theorem vx_cwSW {own : String} {index maxL mc ms : Nat} {y : MethodName} {bytes : ByteArray} {ret : Option FieldType} {hh : List (Nat × Nat × Nat × Nat)} {Ts ws ws' : List Cond} {rm : Room} (n : Nat) (ht : ∀ w ∈ Ts, w.before args s = true) (hT : GoodIn Ts (va_wsS own index y ws)) (hw : ws = Cond.codeWith y bytes maxL ret hh :: ws') (hrc : rm.cells = mc) (hrs : rm.slots = ms)
    (hd : y.cls ≠ "java/lang/invoke/MethodHandle" ∧ y.cls ≠ "java/lang/invoke/VarHandle" ∧ (parseMethodDescriptor y.desc).map (fun d => d.parameters.length) = some n) (hR : rm.frames + 1 ≤ R.frames ∧ 8 + (maxL + 11) + rm.locals ≤ R.locals) :
    vx_CSW R s args own index y bytes maxL ret hh ws rm mc ms n := by
  have ok : ∀ w ∈ va_wsS own index y ws, w.before args s = true := fun w h => ht w (hT w h).1
  have hG : GoodIn Ts ws := fun w h => hT w (by unfold va_wsS; exact List.mem_append_right _ h)
  have hc : Cond.codeWith y bytes maxL ret hh ∈ ws := by rw [hw]; exact List.mem_cons_self
  refine ⟨⟨hrc, hrs, hR.1, hR.2, pay_in ht hG, hc⟩, ht _ (hG _ hc).1, ok _ (by simp [va_wsS]), ⟨hd.1, hd.2.1⟩, fun sig h => ?_, ok _ (by simp [va_wsS]), ok _ (by simp [va_wsS])⟩
  have h2 := hd.2.2
  rw [h] at h2
  exact (Option.some.inj h2).symm
theorem vx_callSW (X : Stand p l e R s m args below meth c T locs cells slots) (hexec : p.tables.exec = Jvm.exec) {own : String} {index : Nat} {y : MethodName} {bytes : ByteArray} {maxL : Nat} {ret : Option FieldType} {hh : List (Nat × Nat × Nat × Nat)}
    (hown : s.vm.findClass own = some m.cls) (hlink : (Cond.methodLink own index y).before args s = true) (hstat : (Cond.static y).before args s = true) (hinit : (Cond.initialized y.cls).before args s = true)
    (hcode : (Cond.codeWith y bytes maxL ret hh).before args s = true) (hy : y.cls ≠ "java/lang/invoke/MethodHandle" ∧ y.cls ≠ "java/lang/invoke/VarHandle")
    {W9 : Nat} {Pre : Pt → Array Value → Prop} {Post : Pt → Array Value → Option Value → Pt → Prop} (hK : Back l R p e below s args y 3 W9 Pre Post)
    {g : JFrame} (hg : g.method = m) (hsize : g.locals.size = c.maxLocals) {argsL rest : List Value} (hlen : ∀ sig, parseMethodDescriptor y.desc = some sig → argsL.length = sig.parameters.length)
    (hstack : g.stack = argsL.reverse ++ rest) (hW : 2 * g.monitorRoom + (rest.map fun v => v.category).sum ≤ W9) (hdg : decode c.code g.pc = .ok (.invokestatic index, 3))
    (hpre : ∀ vm₁, s.WarmedH vm₁ → Pre ⟨T.setVm vm₁, locs, cells, slots⟩ argsL.toArray) :
    ∃ (v : Option Value) (vm₁ : Vm) (B : Pt), s.WarmedH vm₁ ∧ Stand p l e R s m args below meth c B.U B.locs B.cells B.slots ∧ Post ⟨T.setVm vm₁, locs, cells, slots⟩ argsL.toArray v B ∧
      ∀ target, Steps p.tables e below (B.U.setTop { g with pc := g.pc + 3, stack := v.toList ++ rest }) target → Steps p.tables e below (T.setTop g) target := by
  obtain ⟨mk, methM, cM, hnamed, hmethM, -, -, -, -, -, -, hsigM⟩ := Cond.codeWith_spec hcode
  have hstatic : methM.isStatic = true := Cond.static_spec hnamed hmethM hstat
  obtain ⟨kP, hkP, -⟩ := className_of_methodNamed hnamed
  have hinitP : kP.init = .initialized := Cond.initialized_spec (findClass_of_methodNamed hnamed) hkP hinit
  obtain ⟨vm₁, X₁, hstep₁⟩ := X.invokestatic hexec hown hlink hnamed hmethM hstatic hkP hinitP hy (g := g) hg (argsL := argsL) (rest := rest) (hlen _ hsigM) hstack hdg
  obtain ⟨v, B, X', hpost, hsteps⟩ := hK m meth c ⟨T.setVm vm₁, locs, cells, slots⟩ { g with stack := rest } (.invokestatic index) mk argsL.toArray X₁ hg hsize hdg hW (X₁.named hnamed) (hpre vm₁ X₁.warmed)
  exact ⟨v, vm₁, B, X₁.warmed, X', hpost, fun target h => hstep₁ _ fun acts => by rw [doInvoke_state]; exact hsteps.trans h⟩
theorem vx_runSW {y : MethodName} {bytes cc : ByteArray} {maxL nL mc ms n index : Nat} {ret : Option FieldType} {hh : List (Nat × Nat × Nat × Nat)} {ws : List Cond} {rm : Room} {Pc : Array Value → State → Prop} {Qc : Array Value → State → Outcome → State → Prop} {free : Addr → Prop} {Ts : List Cond} {own : String} {As rest : List Value} {g : JFrame}
    (S : CallFix p m c cc nL s args Ts own) (hM : Met l y ws rm Pc Qc mc ms free) (cw : vx_CSW R s args own index y bytes maxL ret hh ws rm mc ms n) (hp : PreS s H Pc As)
    (hg : g.method = m) (hn : As.length = n) (hsize : g.locals.size = nL) (hstack : g.stack = As.reverse ++ rest) (hW : 2 * g.monitorRoom + (rest.map fun v => v.category).sum ≤ 8) (hdg : decode cc g.pc = .ok (.invokestatic index, 3)) (hf : cells + mc ≤ R.cells ∧ slots + ms ≤ R.slots) :
    va_Run p l e R s m args below meth c H locs cells slots mc ms g rest (Qc As.toArray) (free) := by
  obtain ⟨⟨hrc, hrs, hfr, hlo, hws, hcw⟩, hcode, hini, hy, hlen, hl, hstt⟩ := cw
  have hK : Back l R p e below s args y 3 8 (PreOf R mc ms Pc) (PostOf Qc mc ms free) := va_backW (hh := hh) (bytes := bytes) (maxL := maxL) (ret := ret) hM hp.1 hrc hrs hfr hlo hws hcw (fun a' U hW => word_at hW (Or.inl (by first | rfl | simp [Cond.onTables, Cond.keeps, Cond.steady])) hini)
  obtain ⟨hx, hb, hml, ho, -⟩ := S
  intro T hT X
  obtain ⟨v, vm₁, ⟨U', l2, c2, s2⟩, hW₁, X', ⟨g', mk, t, L, e1, e2, hq, h1, hL, h2, h3⟩, st⟩ := vx_callSW X hx (hh := hh) (bytes := bytes) (maxL := maxL) (ret := ret) ho hl hstt hini hcode hy hK hg (hsize.trans hml.symm) (argsL := As) (rest := rest) (fun sig h => hn.trans (hlen sig h)) hstack hW (by rw [hb]; exact hdg)
    (fun vm₁ hW₁ => ⟨hf.1, hf.2, hp.2 (T.setVm vm₁) hT hW₁⟩)
  dsimp only [Pt.U, Pt.locs, Pt.cells, Pt.slots] at X' e1 e2 h1 h2 h3 st
  subst h1; subst h2; subst h3
  exact ⟨v, (T.setVm vm₁).calling g' mk As.toArray, t, U', L, hT, X', hL, e1, e2, hq, st⟩
/-- not caught here, past rows that name other classes: it goes on to the caller -/
theorem vx_outP {p : Program} {l : Launch} {e : Env} {R : Room} {s : State} {m : MethodId} {args : Array Value} {below : List Frame} {meth : Method} {c : Code} {H : Heap} {locs : List Loc} {cells slots : Nat} {free : Addr → Prop} {ls : Array Slot} {rest : List Value} {Qc : Array Value → State → Outcome → State → Prop} {XC : String → State → State → Prop}
    {pc : Nat} {own E : String} {ce : Cell} {q : Addr} {mc ms : Nat} (hown : s.vm.findClass own = some m.cls) (hlocks : meth.locks = false)
    (hpass : ∀ z ∈ c.exceptionTable.toList, covers z pc = false ∨ (z.catchType ≠ 0 ∧ ∃ nm : String, (Cond.classLink own z.catchType nm).before args s = true ∧ va_Nc E nm s)) (hcell : H[q]? = some ce) (hv : ce.vm = .none) (hcl : s.vm.findClass E = some ce.cls)
    (hx : ∀ t : State, t.heap = H → s.vm.Alike t.vm → XC E s t) (hf : ∀ z ∈ locs, free z.base) (hc : cells ≤ mc) (hs : slots ≤ ms) :
    vx_W p l e R s m args below meth c H locs cells slots (vx_MQ below Qc XC args s mc ms free) (F0 m pc ls rest) q := by
  intro T hT X
  have hpl : e.platform.magicAccessors = ({} : Platform).magicAccessors := by rw [X.admits.platform]
  obtain ⟨vm', hW', X', st⟩ := X.outThrough hlocks q (g := F0 m pc ls rest) rfl rfl rfl (cell := ce) (by rw [hT]; exact hcell) (by rw [hv]; rfl)
    (by obtain ⟨k9, h9, -⟩ := Vm.findClass_spec hcl; exact ⟨k9, h9⟩) (fun z hz => by
      rcases hpass z hz with h | ⟨hz0, nm, hl1, hn1⟩
      · exact Or.inl h
      · obtain ⟨c6, hc6, hcl6⟩ := Cond.classLink_spec hown hl1 e.platform hpl
        obtain ⟨a8, b8, h1, h2, h3⟩ := hn1
        cases Option.some.inj (h1.symm.trans hcl)
        cases Option.some.inj (h2.symm.trans hc6)
        exact Or.inr ⟨hz0, _, hcl6, h3⟩)
  obtain ⟨g₀, hfr⟩ := X'.frames_eq
  have hcell9 : ((T.setVm vm').setFrames (.throwing q :: below)).heap[q]? = some ce := by
    show T.heap[q]? = some ce
    rw [hT]; exact hcell
  have hend : Ended ((T.setVm vm').setFrames (.throwing q :: below)) below (.threw q) := State.frames_setFrames _ (State.cur_lt_of_frames hfr)
  refine ⟨(T.setVm vm').setFrames (.throwing q :: below), ?_, .threw q, X'.here.running, hend, Or.inr ⟨q, rfl, E, ce, locs, hx _ hT (X'.ends _).1.alike, hcell9, hv, hcl, (X'.ends _).1, (X'.ends _).2.mono hc hs, hf⟩⟩
  rw [X.pushThrowing_eq]
  exact st
/-- a thing of a world lies in the heap -/
theorem vx_lt {D : va_G} {cl : List vw_C} {ws : va_W} {H1 : Heap} (h : va_P D cl ws H1) {k : Nat} {q : Nat × va_E} (hk : ws[k]? = some q) : q.1 < H1.size := (h k q hk).lt
end VXS
/-! ===== END ===== -/
/-! ===== BEGIN methods with a table of their own: called by a name, returning or throwing ===== -/
section VXH
/-! vx_backW, vx_callVX, vx_callSX, vx_callVW, vx_runVW, vx_runVX, vx_runSX, vx_ofWH follow the same proofs as their sisters above (Free/Laws.lean, Shelf42/LK1.lean); vx_outP calls Shelf42/NT130.lean (outThrough). -/
section
variable {l : Launch} {R : Room} {p : Program} {e : Env} {below : List Frame} {s : State} {sargs : Array Value} {y : MethodName} {len W9 : Nat}
theorem vx_backW {ws : List Cond} {rm : Room} {Pc : Array Value → State → Prop} {Qc : Array Value → State → Outcome → State → Prop} {XC : String → State → State → Prop} {mc ms : Nat} {free : Addr → Prop} {bytes : ByteArray} {maxL : Nat} {ret : Option FieldType} {hh : List (Nat × Nat × Nat × Nat)}
    (hM : vx_Met l y ws rm Pc Qc XC mc ms free) (hblind : FrameBlind Pc) (hrc : rm.cells = mc) (hrs : rm.slots = ms)
    (hframes : rm.frames + 1 ≤ R.frames) (hlocals : W9 + (maxL + 11) + rm.locals ≤ R.locals)
    (hws : ∀ w ∈ ws, ∀ a' U, s.WarmedH U.vm → w.before a' U = true) (hcode : Cond.codeWith y bytes maxL ret hh ∈ ws) (hinit : ∀ a' U, s.WarmedH U.vm → (Cond.initialized y.cls).before a' U = true) :
    vx_Back l R p e below s sargs y len W9 (PreOf R mc ms Pc) (PostOf Qc mc ms free) (vx_Post XC mc ms free) := by
  intro m meth c A g ig mk a X hg hsize hdg hW hn hp
  have h1 : (headSpec ws rm).pre.before a A.U = true := atoms_intro fun w hw => hws w hw _ _ X.warmed
  have h2 : (Cond.codeWith y bytes maxL ret hh).before a A.U = true := hws _ hcode _ _ X.warmed
  have h3 : (Cond.initialized y.cls).before a A.U = true := hinit _ _ X.warmed
  have h4 : A.cells + (headSpec ws rm).room.cells ≤ R.cells := by rw [show (headSpec ws rm).room.cells = mc from hrc]; exact hp.1
  have h5 : A.slots + (headSpec ws rm).room.slots ≤ R.slots := by rw [show (headSpec ws rm).room.slots = ms from hrs]; exact hp.2.1
  have hPc : Pc a (A.U.calling g mk a) := hblind _ _ _ _ hp.2.2
  obtain ⟨U, Ls, c0, s0⟩ := A
  dsimp only [Pt.U, Pt.locs, Pt.cells, Pt.slots] at h1 h2 h3 h4 h5 X hn hPc ⊢
  obtain ⟨m9, methY, cY, hn9, hmY, hcY, -, hlY, -⟩ := Cond.codeWith_spec h2
  cases Option.some.inj (hn9.symm.trans hn)
  obtain ⟨kY, hkY, -⟩ := className_of_methodNamed hn
  have hinitY : kY.init = .initialized := Cond.initialized_spec (findClass_of_methodNamed hn) hkY h3
  have h : At U g.method c below := by rw [hg]; exact X.here
  have hlocals9 : W9 + (maxL + 11) + (headSpec ws rm).room.locals ≤ R.locals := hlocals
  have happ : (headSpec ws rm).appliesLoose y e.platform (U.calling g mk a) = true :=
    Spec.appliesLoose_calling (g := g) h hdg hn hkY hinitY
      (X.room_calling (g := g) (R' := (headSpec ws rm).room) hsize hmY hcY hframes (by rw [hlY]; omega) h4 h5) h1
  obtain ⟨mid, hmid⟩ := h.above
  have hfr : (U.setTop g).frames = (.java g :: mid) ++ below := by rw [State.frames_setTop' g h.top, hmid]; rfl
  obtain ⟨o, s₂, hsteps, -, hend, hq⟩ := Steps.callFree hM p X.admits X.cas X.clock (acts := []) hfr happ hPc trivial
  have hq' : vx_Q Qc XC mc ms free a (U.calling g mk a) o s₂ := hq
  rw [State.frames_setTop' g h.top] at hend
  obtain ⟨g₀, hg0⟩ := Option.isSome_iff_exists.mp h.top
  obtain ⟨r, hr⟩ := State.topJava?_eq_some.mp hg0
  have hr' : (({ U with heap := s₂.heap, slotsUsed := s₂.slotsUsed } : State).setVm s₂.vm).frames = .java g₀ :: r := hr
  rcases hq' with ⟨hqc, L, hfe, hL⟩ | ⟨q, rfl, E, ce, L, hx, hce, hcv, hcl, hW₂, hsm, hL⟩
  · obtain ⟨⟨v, rfl⟩, hW₂, e2, q2, q3, q4, q5, q6⟩ := id hfe
    have e3 : s₂ = ({ (U.calling g mk a).setFrames s₂.frames with heap := s₂.heap, slotsUsed := s₂.slotsUsed } : State).setVm s₂.vm := by
      have : s₂ = ({ s₂ with vm := (U.calling g mk a).vm } : State).setVm s₂.vm := rfl
      rw [e2] at this
      exact this
    obtain ⟨c₂, i₂, len₂, hc₂, hd₂, hf₂⟩ := hend
    have hW' : U.WarmedH s₂.vm := hW₂
    have hcc : c₂ = c := by
      have h1 : s₂.code? g.method = U.code? g.method := by
        rw [State.code?_eq, State.code?_eq, hW'.alike.method?]
      exact Option.some.inj (hc₂.symm.trans (h1.trans h.code))
    subst hcc
    have hlen : len₂ = len := by rw [hdg] at hd₂; cases hd₂; rfl
    subst hlen
    have hs₂ : s₂ = (({ U with heap := s₂.heap, slotsUsed := s₂.slotsUsed } : State).setVm s₂.vm).setTop { g with pc := g.pc + len₂, stack := v.toList ++ g.stack } := by
      refine e3.trans ?_
      rw [hf₂, State.calling_eq h.top, State.setFrames_setFrames, State.setTop_of_frames _ hr', hr]
      rfl
    have hsame : U.sameButNew ({ U with heap := s₂.heap, slotsUsed := s₂.slotsUsed } : State) L mc ms := by
      refine ⟨?_, q2, q3, q4, q5, q6⟩
      obtain ⟨t, ht, -⟩ := State.frames_cons hr
      show ({ U with heap := s₂.heap, slotsUsed := s₂.slotsUsed } : State) = { U.setFrames U.frames with heap := s₂.heap, slotsUsed := s₂.slotsUsed }
      rw [State.setFrames_self ht]
    subst hg
    refine Or.inl ⟨v, ⟨(({ U with heap := s₂.heap, slotsUsed := s₂.slotsUsed } : State).setVm s₂.vm), Ls ++ L, c0 + mc, s0 + ms⟩,
      ⟨X.admits, X.cas, X.clock, X.frames, X.room, X.hears, X.method, X.code, (X.here.setHeapUsed s₂.heap s₂.slotsUsed).setVm hW'.alike, X.tail, State.WarmedH.trans X.warmed hW', X.limits, X.bytes, X.same.trans (hsame.setVm s.vm)⟩,
      ⟨g, mk, s₂, L, rfl, rfl, hqc, rfl, hL, rfl, rfl⟩, ?_⟩
    show Steps p.tables e below _ ((({ U with heap := s₂.heap, slotsUsed := s₂.slotsUsed } : State).setVm s₂.vm).setTop { g with pc := g.pc + len₂, stack := v.toList ++ g.stack })
    rw [← hs₂]
    exact hsteps
  · obtain ⟨e2, q2, q3, q4, q5, q6⟩ := id hsm
    have e3 : s₂ = ({ (U.calling g mk a).setFrames s₂.frames with heap := s₂.heap, slotsUsed := s₂.slotsUsed } : State).setVm s₂.vm := by
      have : s₂ = ({ s₂ with vm := (U.calling g mk a).vm } : State).setVm s₂.vm := rfl
      rw [e2] at this
      exact this
    have hf₂ : s₂.frames = .throwing q :: .java g :: U.frames.tail := hend
    have hW' : U.WarmedH s₂.vm := hW₂
    have hs₂ : s₂ = ((({ U with heap := s₂.heap, slotsUsed := s₂.slotsUsed } : State).setVm s₂.vm).setTop g).pushFrame (.throwing q) := by
      refine e3.trans ?_
      rw [hf₂, State.calling_eq h.top, State.setFrames_setFrames, State.pushFrame, State.frames_setTop _ hr', State.setTop_of_frames _ hr', State.setFrames_setFrames, hr]
      rfl
    have hsame : U.sameButNew ({ U with heap := s₂.heap, slotsUsed := s₂.slotsUsed } : State) L mc ms := by
      refine ⟨?_, q2, q3, q4, q5, q6⟩
      obtain ⟨t, ht, -⟩ := State.frames_cons hr
      show ({ U with heap := s₂.heap, slotsUsed := s₂.slotsUsed } : State) = { U.setFrames U.frames with heap := s₂.heap, slotsUsed := s₂.slotsUsed }
      rw [State.setFrames_self ht]
    subst hg
    refine Or.inr ⟨q, ⟨(({ U with heap := s₂.heap, slotsUsed := s₂.slotsUsed } : State).setVm s₂.vm), Ls ++ L, c0 + mc, s0 + ms⟩,
      ⟨X.admits, X.cas, X.clock, X.frames, X.room, X.hears, X.method, X.code, (X.here.setHeapUsed s₂.heap s₂.slotsUsed).setVm hW'.alike, X.tail, State.WarmedH.trans X.warmed hW', X.limits, X.bytes, X.same.trans (hsame.setVm s.vm)⟩,
      ⟨g, mk, s₂, L, E, ce, rfl, rfl, hx, hce, hcv, hcl, rfl, hL, rfl, rfl⟩, ?_⟩
    show Steps p.tables e below _ (((({ U with heap := s₂.heap, slotsUsed := s₂.slotsUsed } : State).setVm s₂.vm).setTop g).pushFrame (.throwing q))
    rw [← hs₂]
    exact hsteps
end
variable {p : Program} {l : Launch} {e : Env} {R : Room} {s : State} {m : MethodId} {args : Array Value} {below : List Frame} {meth : Method} {c : Code} {T : State} {H : Heap} {locs : List Loc} {cells slots : Nat}
theorem vx_callVX (X : Stand p l e R s m args below meth c T locs cells slots) (hexec : p.tables.exec = Jvm.exec) {own C : String} {index : Nat} {y : MethodName} {bytes : ByteArray} {maxL : Nat} {ret : Option FieldType} {hh : List (Nat × Nat × Nat × Nat)}
    (hown : s.vm.findClass own = some m.cls) (hlink : (Cond.methodLink own index y).before args s = true) (hinst : (Cond.instanceMethod y).before args s = true) (hsel : (Cond.selects C y y).before args s = true)
    (hcode : (Cond.codeWith y bytes maxL ret hh).before args s = true) (hy : y.cls ≠ "java/lang/invoke/MethodHandle" ∧ y.cls ≠ "java/lang/invoke/VarHandle")
    {W9 : Nat} {Pre : Pt → Array Value → Prop} {Post : Pt → Array Value → Option Value → Pt → Prop} {PostX : Pt → Array Value → Addr → Pt → Prop} (hK : vx_Back l R p e below s args y 3 W9 Pre Post PostX)
    {b : Addr} {cellB : Cell} (hcell : T.heap[b]? = some cellB) (hobj : cellB.vm.isStatics = false) (hcls : s.vm.findClass C = some cellB.cls)
    {g : JFrame} (hg : g.method = m) (hsize : g.locals.size = c.maxLocals) {argsL rest : List Value} (hlen : ∀ sig, parseMethodDescriptor y.desc = some sig → argsL.length = sig.parameters.length)
    (hstack : g.stack = argsL.reverse ++ .ref b :: rest) (hW : 2 * g.monitorRoom + (rest.map fun v => v.category).sum ≤ W9) (hdg : decode c.code g.pc = .ok (.invokevirtual index, 3))
    (hpre : ∀ vm₁, s.WarmedH vm₁ → Pre ⟨T.setVm vm₁, locs, cells, slots⟩ (Value.ref b :: argsL).toArray) :
    (∃ (v : Option Value) (vm₁ : Vm) (B : Pt), s.WarmedH vm₁ ∧ Stand p l e R s m args below meth c B.U B.locs B.cells B.slots ∧ Post ⟨T.setVm vm₁, locs, cells, slots⟩ (Value.ref b :: argsL).toArray v B ∧
      ∀ target, Steps p.tables e below (B.U.setTop { g with pc := g.pc + 3, stack := v.toList ++ rest }) target → Steps p.tables e below (T.setTop g) target) ∨
    (∃ (q : Addr) (vm₁ : Vm) (B : Pt), s.WarmedH vm₁ ∧ Stand p l e R s m args below meth c B.U B.locs B.cells B.slots ∧ PostX ⟨T.setVm vm₁, locs, cells, slots⟩ (Value.ref b :: argsL).toArray q B ∧
      Steps p.tables e below (T.setTop g) ((B.U.setTop { g with stack := rest }).pushFrame (.throwing q))) := by
  obtain ⟨mk, methM, hnamed, hmethM, hstM, habM⟩ := Cond.instanceMethod_spec hinst
  obtain ⟨m8, methM', cM, hn8, hmethM', -, -, -, -, -, -, hsigM⟩ := Cond.codeWith_spec hcode
  cases Option.some.inj (hn8.symm.trans hnamed)
  cases hmethM.symm.trans hmethM'
  obtain ⟨c2, r2, m2, q1, q2, q3, q4, kP, hkP, hkPi⟩ := Cond.selects_spec hsel
  cases hcls.symm.trans q1
  cases (State.methodFound?_of_named hnamed hy).symm.trans q2
  cases hnamed.symm.trans q3
  have hselP : selectMethod e.platform s.vm cellB.cls mk = .method mk := by rw [Launch.admits_selectMethod X.admits]; exact q4
  obtain ⟨vm₁, X₁, hstep₁⟩ := X.invokevirtual hexec hown hlink hnamed hmethM hstM hkP hkPi hy (a := b) (cell := cellB) hcell
    (fun z h => by rw [h] at hobj; cases hobj) hselP hmethM habM hkP hkPi (g := g) hg (argsL := argsL) (rest := rest) (hlen _ hsigM) hstack hdg
  rcases hK m meth c ⟨T.setVm vm₁, locs, cells, slots⟩ { g with stack := rest } (.invokevirtual index) mk (Value.ref b :: argsL).toArray X₁ hg hsize hdg hW (X₁.named hnamed) (hpre vm₁ X₁.warmed) with ⟨v, B, X', hpost, hsteps⟩ | ⟨q, B, X', hpost, hsteps⟩
  · exact Or.inl ⟨v, vm₁, B, X₁.warmed, X', hpost, fun target h => hstep₁ _ fun acts => by rw [doInvoke_state]; exact hsteps.trans h⟩
  · exact Or.inr ⟨q, vm₁, B, X₁.warmed, X', hpost, hstep₁ _ fun acts => by rw [doInvoke_state]; exact hsteps⟩
theorem vx_callSX (X : Stand p l e R s m args below meth c T locs cells slots) (hexec : p.tables.exec = Jvm.exec) {own : String} {index : Nat} {y : MethodName} {bytes : ByteArray} {maxL : Nat} {ret : Option FieldType} {hh : List (Nat × Nat × Nat × Nat)}
    (hown : s.vm.findClass own = some m.cls) (hlink : (Cond.methodLink own index y).before args s = true) (hstat : (Cond.static y).before args s = true) (hinit : (Cond.initialized y.cls).before args s = true)
    (hcode : (Cond.codeWith y bytes maxL ret hh).before args s = true) (hy : y.cls ≠ "java/lang/invoke/MethodHandle" ∧ y.cls ≠ "java/lang/invoke/VarHandle")
    {W9 : Nat} {Pre : Pt → Array Value → Prop} {Post : Pt → Array Value → Option Value → Pt → Prop} {PostX : Pt → Array Value → Addr → Pt → Prop} (hK : vx_Back l R p e below s args y 3 W9 Pre Post PostX)
    {g : JFrame} (hg : g.method = m) (hsize : g.locals.size = c.maxLocals) {argsL rest : List Value} (hlen : ∀ sig, parseMethodDescriptor y.desc = some sig → argsL.length = sig.parameters.length)
    (hstack : g.stack = argsL.reverse ++ rest) (hW : 2 * g.monitorRoom + (rest.map fun v => v.category).sum ≤ W9) (hdg : decode c.code g.pc = .ok (.invokestatic index, 3))
    (hpre : ∀ vm₁, s.WarmedH vm₁ → Pre ⟨T.setVm vm₁, locs, cells, slots⟩ argsL.toArray) :
    (∃ (v : Option Value) (vm₁ : Vm) (B : Pt), s.WarmedH vm₁ ∧ Stand p l e R s m args below meth c B.U B.locs B.cells B.slots ∧ Post ⟨T.setVm vm₁, locs, cells, slots⟩ argsL.toArray v B ∧
      ∀ target, Steps p.tables e below (B.U.setTop { g with pc := g.pc + 3, stack := v.toList ++ rest }) target → Steps p.tables e below (T.setTop g) target) ∨
    (∃ (q : Addr) (vm₁ : Vm) (B : Pt), s.WarmedH vm₁ ∧ Stand p l e R s m args below meth c B.U B.locs B.cells B.slots ∧ PostX ⟨T.setVm vm₁, locs, cells, slots⟩ argsL.toArray q B ∧
      Steps p.tables e below (T.setTop g) ((B.U.setTop { g with stack := rest }).pushFrame (.throwing q))) := by
  obtain ⟨mk, methM, cM, hnamed, hmethM, -, -, -, -, -, -, hsigM⟩ := Cond.codeWith_spec hcode
  have hstatic : methM.isStatic = true := Cond.static_spec hnamed hmethM hstat
  obtain ⟨kP, hkP, -⟩ := className_of_methodNamed hnamed
  have hinitP : kP.init = .initialized := Cond.initialized_spec (findClass_of_methodNamed hnamed) hkP hinit
  obtain ⟨vm₁, X₁, hstep₁⟩ := X.invokestatic hexec hown hlink hnamed hmethM hstatic hkP hinitP hy (g := g) hg (argsL := argsL) (rest := rest) (hlen _ hsigM) hstack hdg
  rcases hK m meth c ⟨T.setVm vm₁, locs, cells, slots⟩ { g with stack := rest } (.invokestatic index) mk argsL.toArray X₁ hg hsize hdg hW (X₁.named hnamed) (hpre vm₁ X₁.warmed) with ⟨v, B, X', hpost, hsteps⟩ | ⟨q, B, X', hpost, hsteps⟩
  · exact Or.inl ⟨v, vm₁, B, X₁.warmed, X', hpost, fun target h => hstep₁ _ fun acts => by rw [doInvoke_state]; exact hsteps.trans h⟩
  · exact Or.inr ⟨q, vm₁, B, X₁.warmed, X', hpost, hstep₁ _ fun acts => by rw [doInvoke_state]; exact hsteps⟩
theorem vx_callVW (X : Stand p l e R s m args below meth c T locs cells slots) (hexec : p.tables.exec = Jvm.exec) {own C : String} {index : Nat} {y : MethodName} {bytes : ByteArray} {maxL : Nat} {ret : Option FieldType} {hh : List (Nat × Nat × Nat × Nat)}
    (hown : s.vm.findClass own = some m.cls) (hlink : (Cond.methodLink own index y).before args s = true) (hinst : (Cond.instanceMethod y).before args s = true) (hsel : (Cond.selects C y y).before args s = true)
    (hcode : (Cond.codeWith y bytes maxL ret hh).before args s = true) (hy : y.cls ≠ "java/lang/invoke/MethodHandle" ∧ y.cls ≠ "java/lang/invoke/VarHandle")
    {W9 : Nat} {Pre : Pt → Array Value → Prop} {Post : Pt → Array Value → Option Value → Pt → Prop} (hK : Back l R p e below s args y 3 W9 Pre Post)
    {b : Addr} {cellB : Cell} (hcell : T.heap[b]? = some cellB) (hobj : cellB.vm.isStatics = false) (hcls : s.vm.findClass C = some cellB.cls)
    {g : JFrame} (hg : g.method = m) (hsize : g.locals.size = c.maxLocals) {argsL rest : List Value} (hlen : ∀ sig, parseMethodDescriptor y.desc = some sig → argsL.length = sig.parameters.length)
    (hstack : g.stack = argsL.reverse ++ .ref b :: rest) (hW : 2 * g.monitorRoom + (rest.map fun v => v.category).sum ≤ W9) (hdg : decode c.code g.pc = .ok (.invokevirtual index, 3))
    (hpre : ∀ vm₁, s.WarmedH vm₁ → Pre ⟨T.setVm vm₁, locs, cells, slots⟩ (Value.ref b :: argsL).toArray) :
    ∃ (v : Option Value) (vm₁ : Vm) (B : Pt), s.WarmedH vm₁ ∧ Stand p l e R s m args below meth c B.U B.locs B.cells B.slots ∧ Post ⟨T.setVm vm₁, locs, cells, slots⟩ (Value.ref b :: argsL).toArray v B ∧
      ∀ target, Steps p.tables e below (B.U.setTop { g with pc := g.pc + 3, stack := v.toList ++ rest }) target → Steps p.tables e below (T.setTop g) target := by
  obtain ⟨mk, methM, hnamed, hmethM, hstM, habM⟩ := Cond.instanceMethod_spec hinst
  obtain ⟨m8, methM', cM, hn8, hmethM', -, -, -, -, -, -, hsigM⟩ := Cond.codeWith_spec hcode
  cases Option.some.inj (hn8.symm.trans hnamed)
  cases hmethM.symm.trans hmethM'
  obtain ⟨c2, r2, m2, q1, q2, q3, q4, kP, hkP, hkPi⟩ := Cond.selects_spec hsel
  cases hcls.symm.trans q1
  cases (State.methodFound?_of_named hnamed hy).symm.trans q2
  cases hnamed.symm.trans q3
  have hselP : selectMethod e.platform s.vm cellB.cls mk = .method mk := by rw [Launch.admits_selectMethod X.admits]; exact q4
  obtain ⟨vm₁, X₁, hstep₁⟩ := X.invokevirtual hexec hown hlink hnamed hmethM hstM hkP hkPi hy (a := b) (cell := cellB) hcell
    (fun z h => by rw [h] at hobj; cases hobj) hselP hmethM habM hkP hkPi (g := g) hg (argsL := argsL) (rest := rest) (hlen _ hsigM) hstack hdg
  obtain ⟨v, B, X', hpost, hsteps⟩ := hK m meth c ⟨T.setVm vm₁, locs, cells, slots⟩ { g with stack := rest } (.invokevirtual index) mk (Value.ref b :: argsL).toArray X₁ hg hsize hdg hW (X₁.named hnamed) (hpre vm₁ X₁.warmed)
  exact ⟨v, vm₁, B, X₁.warmed, X', hpost, fun target h => hstep₁ _ fun acts => by rw [doInvoke_state]; exact hsteps.trans h⟩
abbrev vx_CVW (R : Room) (s : State) (args : Array Value) (own C : String) (index : Nat) (y : MethodName) (bytes : ByteArray) (maxL : Nat) (ret : Option FieldType) (hh : List (Nat × Nat × Nat × Nat)) (ws : List Cond) (rm : Room) (mc ms n : Nat) : Prop :=
  (rm.cells = mc ∧ rm.slots = ms ∧ rm.frames + 1 ≤ R.frames ∧ 8 + (maxL + 11) + rm.locals ≤ R.locals ∧ (∀ w ∈ ws, ∀ (a' : Array Value) (U : State), s.WarmedH U.vm → w.before a' U = true) ∧ Cond.codeWith y bytes maxL ret hh ∈ ws) ∧
  (Cond.codeWith y bytes maxL ret hh).before args s = true ∧ (Cond.initialized y.cls).before args s = true ∧ (y.cls ≠ "java/lang/invoke/MethodHandle" ∧ y.cls ≠ "java/lang/invoke/VarHandle") ∧
  (∀ sig, parseMethodDescriptor y.desc = some sig → n = sig.parameters.length) ∧ (Cond.methodLink own index y).before args s = true ∧ (Cond.instanceMethod y).before args s = true ∧ (Cond.selects C y y).before args s = true
theorem vx_cwVW {own C : String} {index maxL mc ms : Nat} {y : MethodName} {bytes : ByteArray} {ret : Option FieldType} {hh : List (Nat × Nat × Nat × Nat)} {Ts ws ws' : List Cond} {rm : Room} (n : Nat) (ht : ∀ w ∈ Ts, w.before args s = true) (hT : GoodIn Ts (wsV own index C y ws)) (hw : ws = Cond.codeWith y bytes maxL ret hh :: ws') (hrc : rm.cells = mc) (hrs : rm.slots = ms)
    (hd : y.cls = C ∧ y.cls ≠ "java/lang/invoke/MethodHandle" ∧ y.cls ≠ "java/lang/invoke/VarHandle" ∧ (parseMethodDescriptor y.desc).map (fun d => d.parameters.length) = some n) (hR : rm.frames + 1 ≤ R.frames ∧ 8 + (maxL + 11) + rm.locals ≤ R.locals) :
    vx_CVW R s args own C index y bytes maxL ret hh ws rm mc ms n := by
  obtain ⟨hC, hd⟩ := hd
  subst hC
  have ok : ∀ w ∈ wsV own index y.cls y ws, w.before args s = true := fun w h => ht w (hT w h).1
  have hG : GoodIn Ts ws := fun w h => hT w (by unfold wsV; exact List.mem_append_right _ h)
  have hc : Cond.codeWith y bytes maxL ret hh ∈ ws := by rw [hw]; exact List.mem_cons_self
  refine ⟨⟨hrc, hrs, hR.1, hR.2, pay_in ht hG, hc⟩, ht _ (hG _ hc).1, ok _ (by simp [wsV]), ⟨hd.1, hd.2.1⟩, fun sig h => ?_, ok _ (by simp [wsV]), ok _ (by simp [wsV]), ok _ (by simp [wsV])⟩
  have h2 := hd.2.2
  rw [h] at h2
  exact (Option.some.inj h2).symm
theorem vx_runVW {y : MethodName} {bytes cc : ByteArray} {maxL nL mc ms n index : Nat} {ret : Option FieldType} {hh : List (Nat × Nat × Nat × Nat)} {ws : List Cond} {rm : Room} {Pc : Array Value → State → Prop} {Qc : Array Value → State → Outcome → State → Prop} {free : Addr → Prop} {Ts : List Cond} {own C : String} {b : Addr} {As rest : List Value} {g : JFrame}
    (S : CallFix p m c cc nL s args Ts own) (hM : Met l y ws rm Pc Qc mc ms free) (cw : vx_CVW R s args own C index y bytes maxL ret hh ws rm mc ms n) (hp : PreV s H C b Pc As)
    (hg : g.method = m) (hn : As.length = n) (hsize : g.locals.size = nL) (hstack : g.stack = As.reverse ++ .ref b :: rest) (hW : 2 * g.monitorRoom + (rest.map fun v => v.category).sum ≤ 8) (hdg : decode cc g.pc = .ok (.invokevirtual index, 3)) (hf : cells + mc ≤ R.cells ∧ slots + ms ≤ R.slots) :
    va_Run p l e R s m args below meth c H locs cells slots mc ms g rest (Qc (Value.ref b :: As).toArray) free := by
  obtain ⟨⟨hrc, hrs, hfr, hlo, hws, hcw⟩, hcode, hini, hy, hlen, hl, hin, hse⟩ := cw
  have hK : Back l R p e below s args y 3 8 (PreOf R mc ms Pc) (PostOf Qc mc ms free) := va_backW (hh := hh) (bytes := bytes) (maxL := maxL) (ret := ret) hM hp.1 hrc hrs hfr hlo hws hcw (fun a' U hW => word_at hW (Or.inl (by first | rfl | simp [Cond.onTables, Cond.keeps, Cond.steady])) hini)
  obtain ⟨hx, hb, hml, ho, -⟩ := S
  obtain ⟨-, ⟨cellB, hcB, hoB, hclB⟩, hPc⟩ := hp
  intro T hT X
  obtain ⟨v, vm₁, ⟨U', l2, c2, s2⟩, hW₁, X', ⟨g', mk, t, L, e1, e2, hq, h1, hL, h2, h3⟩, st⟩ := vx_callVW X hx (C := C) (hh := hh) (bytes := bytes) (maxL := maxL) (ret := ret) ho hl hin hse hcode hy hK (by rw [hT]; exact hcB) hoB hclB hg (hsize.trans hml.symm) (argsL := As) (rest := rest) (fun sig h => hn.trans (hlen sig h)) hstack hW (by rw [hb]; exact hdg)
    (fun vm₁ hW₁ => ⟨hf.1, hf.2, hPc (T.setVm vm₁) hT hW₁⟩)
  dsimp only [Pt.U, Pt.locs, Pt.cells, Pt.slots] at X' e1 e2 h1 h2 h3 st
  subst h1; subst h2; subst h3
  exact ⟨v, (T.setVm vm₁).calling g' mk (Value.ref b :: As).toArray, t, U', L, hT, X', hL, e1, e2, hq, st⟩
section
variable {y : MethodName} {bytes cc : ByteArray} {maxL nL mc ms n index : Nat} {ret : Option FieldType} {ws : List Cond} {rm : Room} {Pc : Array Value → State → Prop} {Qc : Array Value → State → Outcome → State → Prop} {XC : String → State → State → Prop} {free : Addr → Prop} {Ts : List Cond} {own C : String} {b : Addr} {As rest : List Value} {g : JFrame}
theorem vx_runVX {hh : List (Nat × Nat × Nat × Nat)} (S : CallFix p m c cc nL s args Ts own) (hM : vx_Met l y ws rm Pc Qc XC mc ms free) (cw : vx_CVW R s args own C index y bytes maxL ret hh ws rm mc ms n) (hp : PreV s H C b Pc As)
    (hg : g.method = m) (hn : As.length = n) (hsize : g.locals.size = nL) (hstack : g.stack = As.reverse ++ .ref b :: rest) (hW : 2 * g.monitorRoom + (rest.map fun v => v.category).sum ≤ 8) (hdg : decode cc g.pc = .ok (.invokevirtual index, 3)) (hf : cells + mc ≤ R.cells ∧ slots + ms ≤ R.slots) :
    vx_Run p l e R s m args below meth c H locs cells slots mc ms g rest (Qc (Value.ref b :: As).toArray) XC free := by
  obtain ⟨⟨hrc, hrs, hfr, hlo, hws, hcw⟩, hcode, hini, hy, hlen, hl, hin, hse⟩ := cw
  have hK : vx_Back l R p e below s args y 3 8 (PreOf R mc ms Pc) (PostOf Qc mc ms free) (vx_Post XC mc ms free) := vx_backW (hh := hh) (bytes := bytes) (maxL := maxL) (ret := ret) hM hp.1 hrc hrs hfr hlo hws hcw (fun a' U hW => word_at hW (Or.inl (by first | rfl | simp [Cond.onTables, Cond.keeps, Cond.steady])) hini)
  obtain ⟨hx, hb, hml, ho, -⟩ := S
  obtain ⟨-, ⟨cellB, hcB, hoB, hclB⟩, hPc⟩ := hp
  intro T hT X
  rcases vx_callVX X hx (C := C) (hh := hh) (bytes := bytes) (maxL := maxL) (ret := ret) ho hl hin hse hcode hy hK (by rw [hT]; exact hcB) hoB hclB hg (hsize.trans hml.symm) (argsL := As) (rest := rest) (fun sig h => hn.trans (hlen sig h)) hstack hW (by rw [hb]; exact hdg)
    (fun vm₁ hW₁ => ⟨hf.1, hf.2, hPc (T.setVm vm₁) hT hW₁⟩) with ⟨v, vm₁, ⟨U', l2, c2, s2⟩, hW₁, X', ⟨g', mk, t, L, e1, e2, hq, h1, hL, h2, h3⟩, st⟩ | ⟨q, vm₁, ⟨U', l2, c2, s2⟩, hW₁, X', ⟨g', mk, t, L, E, ce, e1, e2, hq, hce, hcv, hcl, h1, hL, h2, h3⟩, st⟩
  · dsimp only [Pt.U, Pt.locs, Pt.cells, Pt.slots] at X' e1 e2 h1 h2 h3 st
    subst h1; subst h2; subst h3
    exact Or.inl ⟨v, (T.setVm vm₁).calling g' mk (Value.ref b :: As).toArray, t, U', L, hT, X', hL, e1, e2, hq, st⟩
  · dsimp only [Pt.U, Pt.locs, Pt.cells, Pt.slots] at X' e1 e2 h1 h2 h3 st hcl
    subst h1; subst h2; subst h3
    exact Or.inr ⟨q, (T.setVm vm₁).calling g' mk (Value.ref b :: As).toArray, t, U', L, E, ce, hT, X', hL, e1, e2, hq, hce, hcv, vx_cls hW₁ hcl, st⟩
theorem vx_runSX {hh : List (Nat × Nat × Nat × Nat)} (S : CallFix p m c cc nL s args Ts own) (hM : vx_Met l y ws rm Pc Qc XC mc ms free) (cw : vx_CSW R s args own index y bytes maxL ret hh ws rm mc ms n) (hp : PreS s H Pc As)
    (hg : g.method = m) (hn : As.length = n) (hsize : g.locals.size = nL) (hstack : g.stack = As.reverse ++ rest) (hW : 2 * g.monitorRoom + (rest.map fun v => v.category).sum ≤ 8) (hdg : decode cc g.pc = .ok (.invokestatic index, 3)) (hf : cells + mc ≤ R.cells ∧ slots + ms ≤ R.slots) :
    vx_Run p l e R s m args below meth c H locs cells slots mc ms g rest (Qc As.toArray) XC free := by
  obtain ⟨⟨hrc, hrs, hfr, hlo, hws, hcw⟩, hcode, hini, hy, hlen, hl, hstt⟩ := cw
  have hK : vx_Back l R p e below s args y 3 8 (PreOf R mc ms Pc) (PostOf Qc mc ms free) (vx_Post XC mc ms free) := vx_backW (hh := hh) (bytes := bytes) (maxL := maxL) (ret := ret) hM hp.1 hrc hrs hfr hlo hws hcw (fun a' U hW => word_at hW (Or.inl (by first | rfl | simp [Cond.onTables, Cond.keeps, Cond.steady])) hini)
  obtain ⟨hx, hb, hml, ho, -⟩ := S
  intro T hT X
  rcases vx_callSX X hx (hh := hh) (bytes := bytes) (maxL := maxL) (ret := ret) ho hl hstt hini hcode hy hK hg (hsize.trans hml.symm) (argsL := As) (rest := rest) (fun sig h => hn.trans (hlen sig h)) hstack hW (by rw [hb]; exact hdg)
    (fun vm₁ hW₁ => ⟨hf.1, hf.2, hp.2 (T.setVm vm₁) hT hW₁⟩) with ⟨v, vm₁, ⟨U', l2, c2, s2⟩, hW₁, X', ⟨g', mk, t, L, e1, e2, hq, h1, hL, h2, h3⟩, st⟩ | ⟨q, vm₁, ⟨U', l2, c2, s2⟩, hW₁, X', ⟨g', mk, t, L, E, ce, e1, e2, hq, hce, hcv, hcl, h1, hL, h2, h3⟩, st⟩
  · dsimp only [Pt.U, Pt.locs, Pt.cells, Pt.slots] at X' e1 e2 h1 h2 h3 st
    subst h1; subst h2; subst h3
    exact Or.inl ⟨v, (T.setVm vm₁).calling g' mk As.toArray, t, U', L, hT, X', hL, e1, e2, hq, st⟩
  · dsimp only [Pt.U, Pt.locs, Pt.cells, Pt.slots] at X' e1 e2 h1 h2 h3 st hcl
    subst h1; subst h2; subst h3
    exact Or.inr ⟨q, (T.setVm vm₁).calling g' mk As.toArray, t, U', L, E, ce, hT, X', hL, e1, e2, hq, hce, hcv, vx_cls hW₁ hcl, st⟩
end
end VXH
theorem vx_ofWH {l : Launch} {y : MethodName} {ws ws' : List Cond} {rm : Room} {Pc : Array Value → State → Prop} {Qc : Array Value → State → Outcome → State → Prop} {XC : String → State → State → Prop} {mc ms : Nat} {free : Addr → Prop} {cc : ByteArray} {maxL : Nat} {ret : Option FieldType} {hh : List (Nat × Nat × Nat × Nat)}
    (hy : plainName y.cls = true) (hw : ws = Cond.codeWith y cc maxL ret hh :: ws')
    (body : ∀ p e s m args below meth c s₁, BodyLoose p l y (headSpec ws rm) cc maxL ret e s m args below meth c s₁ → c.maxLocals = maxL → Pc args s →
      W p l e (headSpec ws rm).room s m args below meth c s.heap [] 0 0 (vx_MQ below Qc XC args s mc ms free) (entryFrame m args maxL)) : vx_Met l y ws rm Pc Qc XC mc ms free := by
  refine MetFree.of_bodyS (code := cc) (maxLocals := maxL) (ret := ret) hy ?_ ?_
  · intro args s m h hn
    obtain ⟨m9, meth, c, hn9, h1, h2, h3, h4, -, h5, h6, -⟩ := Cond.codeWith_spec (atoms_spec (ws := ws) h _ (by rw [hw]; exact List.mem_cons_self))
    cases hn.symm.trans hn9
    exact ⟨meth, c, h1, h2, h3, h4, h5, h6⟩
  · intro p e s m args below meth c s₁ B hml hP _
    have hh0 : s₁.heap = s.heap := by rw [B.state]; rfl
    obtain ⟨t, a1, o, b1, b2, b3⟩ := body p e s m args below meth c s₁ B hml hP s₁ hh0 (Stand.of_body B)
    exact ⟨t, o, a1, b1, b2, b3⟩
/-! ===== END ===== -/
end
section
-- ===== PART A: goes FIRST, ahead of the names: the tables' words, and 'selects' of the private methods out of them =====
/-- a private method of a class that the tables say can be made, by its rows of tables_1 -/
def lw_okq (q : MethodName × Nat) : Prop := (q.1.cls ≠ "java/lang/invoke/MethodHandle" ∧ q.1.cls ≠ "java/lang/invoke/VarHandle") ∧ Cond.instantiable q.1.cls q.2 ∈ tables_1 ∧ Cond.privateMethod q.1 ∈ tables_1 ∧ Cond.instanceMethod q.1 ∈ tables_1
theorem lw_p0 : lw_okq (⟨"RipeHours", "number", "(I)I"⟩, 3) := ⟨⟨by decide +kernel, by decide +kernel⟩, List.mem_of_getElem? (i := 17) (by decide +kernel), List.mem_of_getElem? (i := 302) (by decide +kernel), List.mem_of_getElem? (i := 303) (by decide +kernel)⟩
theorem lw_p1 : lw_okq (⟨"RipeHours", "mixedMember", "(JI)J"⟩, 3) := ⟨⟨by decide +kernel, by decide +kernel⟩, List.mem_of_getElem? (i := 17) (by decide +kernel), List.mem_of_getElem? (i := 330) (by decide +kernel), List.mem_of_getElem? (i := 331) (by decide +kernel)⟩
theorem lw_p2 : lw_okq (⟨"RipeHours", "mixedText", "(J)J"⟩, 3) := ⟨⟨by decide +kernel, by decide +kernel⟩, List.mem_of_getElem? (i := 17) (by decide +kernel), List.mem_of_getElem? (i := 401) (by decide +kernel), List.mem_of_getElem? (i := 402) (by decide +kernel)⟩
theorem lw_p3 : lw_okq (⟨"java/lang/Throwable", "fillInStackTrace", "(I)Ljava/lang/Throwable;"⟩, 6) := ⟨⟨by decide +kernel, by decide +kernel⟩, List.mem_of_getElem? (i := 451) (by decide +kernel), List.mem_of_getElem? (i := 449) (by decide +kernel), List.mem_of_getElem? (i := 450) (by decide +kernel)⟩
theorem lw_p4 : lw_okq (⟨"RipeHoursModel", "save", "()V"⟩, 12) := ⟨⟨by decide +kernel, by decide +kernel⟩, List.mem_of_getElem? (i := 786) (by decide +kernel), List.mem_of_getElem? (i := 837) (by decide +kernel), List.mem_of_getElem? (i := 838) (by decide +kernel)⟩
theorem lw_p5 : lw_okq (⟨"RipeHoursModel", "put", "(III)V"⟩, 12) := ⟨⟨by decide +kernel, by decide +kernel⟩, List.mem_of_getElem? (i := 786) (by decide +kernel), List.mem_of_getElem? (i := 841) (by decide +kernel), List.mem_of_getElem? (i := 842) (by decide +kernel)⟩
theorem lw_p6 : lw_okq (⟨"RipeHoursModel", "isMember", "(I)Z"⟩, 12) := ⟨⟨by decide +kernel, by decide +kernel⟩, List.mem_of_getElem? (i := 786) (by decide +kernel), List.mem_of_getElem? (i := 849) (by decide +kernel), List.mem_of_getElem? (i := 850) (by decide +kernel)⟩
theorem lw_p7 : lw_okq (⟨"RipeHoursModel", "isThere", "(I)Z"⟩, 12) := ⟨⟨by decide +kernel, by decide +kernel⟩, List.mem_of_getElem? (i := 786) (by decide +kernel), List.mem_of_getElem? (i := 856) (by decide +kernel), List.mem_of_getElem? (i := 857) (by decide +kernel)⟩
theorem lw_p8 : lw_okq (⟨"RipeHoursModel", "of", "(II)I"⟩, 12) := ⟨⟨by decide +kernel, by decide +kernel⟩, List.mem_of_getElem? (i := 786) (by decide +kernel), List.mem_of_getElem? (i := 860) (by decide +kernel), List.mem_of_getElem? (i := 861) (by decide +kernel)⟩
theorem lw_p9 : lw_okq (⟨"RipeHoursModel", "endMotion", "()V"⟩, 12) := ⟨⟨by decide +kernel, by decide +kernel⟩, List.mem_of_getElem? (i := 786) (by decide +kernel), List.mem_of_getElem? (i := 864) (by decide +kernel), List.mem_of_getElem? (i := 865) (by decide +kernel)⟩
theorem lw_p10 : lw_okq (⟨"RipeHoursModel", "lookAt", "()I"⟩, 12) := ⟨⟨by decide +kernel, by decide +kernel⟩, List.mem_of_getElem? (i := 786) (by decide +kernel), List.mem_of_getElem? (i := 868) (by decide +kernel), List.mem_of_getElem? (i := 869) (by decide +kernel)⟩
theorem lw_p11 : lw_okq (⟨"RipeHoursModel", "othersOf", "(I)I"⟩, 12) := ⟨⟨by decide +kernel, by decide +kernel⟩, List.mem_of_getElem? (i := 786) (by decide +kernel), List.mem_of_getElem? (i := 872) (by decide +kernel), List.mem_of_getElem? (i := 873) (by decide +kernel)⟩
theorem lw_p12 : lw_okq (⟨"RipeHoursModel", "allThere", "()I"⟩, 12) := ⟨⟨by decide +kernel, by decide +kernel⟩, List.mem_of_getElem? (i := 786) (by decide +kernel), List.mem_of_getElem? (i := 876) (by decide +kernel), List.mem_of_getElem? (i := 877) (by decide +kernel)⟩
theorem lw_p13 : lw_okq (⟨"RipeHoursModel", "add", "(III)V"⟩, 12) := ⟨⟨by decide +kernel, by decide +kernel⟩, List.mem_of_getElem? (i := 786) (by decide +kernel), List.mem_of_getElem? (i := 883) (by decide +kernel), List.mem_of_getElem? (i := 884) (by decide +kernel)⟩
theorem lw_p14 : lw_okq (⟨"RipeHoursModel", "canDeal", "(IIII)Z"⟩, 12) := ⟨⟨by decide +kernel, by decide +kernel⟩, List.mem_of_getElem? (i := 786) (by decide +kernel), List.mem_of_getElem? (i := 897) (by decide +kernel), List.mem_of_getElem? (i := 898) (by decide +kernel)⟩
theorem lw_p15 : lw_okq (⟨"RipeHoursModel", "valueOf", "(III)I"⟩, 12) := ⟨⟨by decide +kernel, by decide +kernel⟩, List.mem_of_getElem? (i := 786) (by decide +kernel), List.mem_of_getElem? (i := 901) (by decide +kernel), List.mem_of_getElem? (i := 902) (by decide +kernel)⟩
def lw_privs_1 : List (MethodName × Nat) := [(⟨"RipeHours", "number", "(I)I"⟩, 3), (⟨"RipeHours", "mixedMember", "(JI)J"⟩, 3), (⟨"RipeHours", "mixedText", "(J)J"⟩, 3), (⟨"java/lang/Throwable", "fillInStackTrace", "(I)Ljava/lang/Throwable;"⟩, 6), (⟨"RipeHoursModel", "save", "()V"⟩, 12), (⟨"RipeHoursModel", "put", "(III)V"⟩, 12), (⟨"RipeHoursModel", "isMember", "(I)Z"⟩, 12), (⟨"RipeHoursModel", "isThere", "(I)Z"⟩, 12), (⟨"RipeHoursModel", "of", "(II)I"⟩, 12), (⟨"RipeHoursModel", "endMotion", "()V"⟩, 12), (⟨"RipeHoursModel", "lookAt", "()I"⟩, 12), (⟨"RipeHoursModel", "othersOf", "(I)I"⟩, 12), (⟨"RipeHoursModel", "allThere", "()I"⟩, 12), (⟨"RipeHoursModel", "add", "(III)V"⟩, 12), (⟨"RipeHoursModel", "canDeal", "(IIII)Z"⟩, 12), (⟨"RipeHoursModel", "valueOf", "(III)I"⟩, 12)]
theorem lw_r1 : ∀ q ∈ lw_privs_1, lw_okq q := List.forall_mem_cons.mpr ⟨lw_p0, List.forall_mem_cons.mpr ⟨lw_p1, List.forall_mem_cons.mpr ⟨lw_p2, List.forall_mem_cons.mpr ⟨lw_p3, List.forall_mem_cons.mpr ⟨lw_p4, List.forall_mem_cons.mpr ⟨lw_p5, List.forall_mem_cons.mpr ⟨lw_p6, List.forall_mem_cons.mpr ⟨lw_p7, List.forall_mem_cons.mpr ⟨lw_p8, List.forall_mem_cons.mpr ⟨lw_p9, List.forall_mem_cons.mpr ⟨lw_p10, List.forall_mem_cons.mpr ⟨lw_p11, List.forall_mem_cons.mpr ⟨lw_p12, List.forall_mem_cons.mpr ⟨lw_p13, List.forall_mem_cons.mpr ⟨lw_p14, List.forall_mem_cons.mpr ⟨lw_p15, fun _ h => absurd h List.not_mem_nil⟩⟩⟩⟩⟩⟩⟩⟩⟩⟩⟩⟩⟩⟩⟩⟩
end
section
theorem lw_p16 : lw_okq (⟨"RipeHoursModel", "ripenessOf", "(II)I"⟩, 12) := ⟨⟨by decide +kernel, by decide +kernel⟩, List.mem_of_getElem? (i := 786) (by decide +kernel), List.mem_of_getElem? (i := 905) (by decide +kernel), List.mem_of_getElem? (i := 906) (by decide +kernel)⟩
theorem lw_p17 : lw_okq (⟨"RipeHoursModel", "canPay", "(II)Z"⟩, 12) := ⟨⟨by decide +kernel, by decide +kernel⟩, List.mem_of_getElem? (i := 786) (by decide +kernel), List.mem_of_getElem? (i := 909) (by decide +kernel), List.mem_of_getElem? (i := 910) (by decide +kernel)⟩
theorem lw_p18 : lw_okq (⟨"RipeHoursModel", "deals", "(IIII)I"⟩, 12) := ⟨⟨by decide +kernel, by decide +kernel⟩, List.mem_of_getElem? (i := 786) (by decide +kernel), List.mem_of_getElem? (i := 913) (by decide +kernel), List.mem_of_getElem? (i := 914) (by decide +kernel)⟩
theorem lw_p19 : lw_okq (⟨"RipeHoursModel", "passes", "(I)I"⟩, 12) := ⟨⟨by decide +kernel, by decide +kernel⟩, List.mem_of_getElem? (i := 786) (by decide +kernel), List.mem_of_getElem? (i := 925) (by decide +kernel), List.mem_of_getElem? (i := 926) (by decide +kernel)⟩
theorem lw_p20 : lw_okq (⟨"RipeHoursModel", "weekOf", "(I)I"⟩, 12) := ⟨⟨by decide +kernel, by decide +kernel⟩, List.mem_of_getElem? (i := 786) (by decide +kernel), List.mem_of_getElem? (i := 929) (by decide +kernel), List.mem_of_getElem? (i := 930) (by decide +kernel)⟩
theorem lw_p21 : lw_okq (⟨"RipeHoursModel", "canMove", "(II)Z"⟩, 12) := ⟨⟨by decide +kernel, by decide +kernel⟩, List.mem_of_getElem? (i := 786) (by decide +kernel), List.mem_of_getElem? (i := 947) (by decide +kernel), List.mem_of_getElem? (i := 948) (by decide +kernel)⟩
theorem lw_p22 : lw_okq (⟨"RipeHoursModel", "canVote", "(I)Z"⟩, 12) := ⟨⟨by decide +kernel, by decide +kernel⟩, List.mem_of_getElem? (i := 786) (by decide +kernel), List.mem_of_getElem? (i := 955) (by decide +kernel), List.mem_of_getElem? (i := 956) (by decide +kernel)⟩
theorem lw_p23 : lw_okq (⟨"RipeHoursModel", "rightUpTo", "()I"⟩, 12) := ⟨⟨by decide +kernel, by decide +kernel⟩, List.mem_of_getElem? (i := 786) (by decide +kernel), List.mem_of_getElem? (i := 978) (by decide +kernel), List.mem_of_getElem? (i := 979) (by decide +kernel)⟩
theorem lw_p24 : lw_okq (⟨"RipeHoursModel", "takes", "(I)Z"⟩, 12) := ⟨⟨by decide +kernel, by decide +kernel⟩, List.mem_of_getElem? (i := 786) (by decide +kernel), List.mem_of_getElem? (i := 982) (by decide +kernel), List.mem_of_getElem? (i := 983) (by decide +kernel)⟩
theorem lw_p25 : lw_okq (⟨"RipeHoursModel", "takesMember", "(I)Z"⟩, 12) := ⟨⟨by decide +kernel, by decide +kernel⟩, List.mem_of_getElem? (i := 786) (by decide +kernel), List.mem_of_getElem? (i := 986) (by decide +kernel), List.mem_of_getElem? (i := 987) (by decide +kernel)⟩
theorem lw_p26 : lw_okq (⟨"RipeHoursModel", "takesDigit", "(I)Z"⟩, 12) := ⟨⟨by decide +kernel, by decide +kernel⟩, List.mem_of_getElem? (i := 786) (by decide +kernel), List.mem_of_getElem? (i := 990) (by decide +kernel), List.mem_of_getElem? (i := 991) (by decide +kernel)⟩
theorem lw_p27 : lw_okq (⟨"RipeHoursModel", "makes", "(I)Z"⟩, 12) := ⟨⟨by decide +kernel, by decide +kernel⟩, List.mem_of_getElem? (i := 786) (by decide +kernel), List.mem_of_getElem? (i := 998) (by decide +kernel), List.mem_of_getElem? (i := 999) (by decide +kernel)⟩
theorem lw_p28 : lw_okq (⟨"RipeHoursModel", "memberNow", "(II)I"⟩, 12) := ⟨⟨by decide +kernel, by decide +kernel⟩, List.mem_of_getElem? (i := 786) (by decide +kernel), List.mem_of_getElem? (i := 1010) (by decide +kernel), List.mem_of_getElem? (i := 1011) (by decide +kernel)⟩
theorem lw_p29 : lw_okq (⟨"RipeHoursModel", "skillNow", "(III)I"⟩, 12) := ⟨⟨by decide +kernel, by decide +kernel⟩, List.mem_of_getElem? (i := 786) (by decide +kernel), List.mem_of_getElem? (i := 1018) (by decide +kernel), List.mem_of_getElem? (i := 1019) (by decide +kernel)⟩
theorem lw_p30 : lw_okq (⟨"RipeHoursModel", "counted", "(I)I"⟩, 12) := ⟨⟨by decide +kernel, by decide +kernel⟩, List.mem_of_getElem? (i := 786) (by decide +kernel), List.mem_of_getElem? (i := 1026) (by decide +kernel), List.mem_of_getElem? (i := 1027) (by decide +kernel)⟩
theorem lw_p31 : lw_okq (⟨"RipeHoursModel", "sumOfBalances", "(Z)I"⟩, 12) := ⟨⟨by decide +kernel, by decide +kernel⟩, List.mem_of_getElem? (i := 786) (by decide +kernel), List.mem_of_getElem? (i := 1030) (by decide +kernel), List.mem_of_getElem? (i := 1031) (by decide +kernel)⟩
def lw_privs_2 : List (MethodName × Nat) := [(⟨"RipeHoursModel", "ripenessOf", "(II)I"⟩, 12), (⟨"RipeHoursModel", "canPay", "(II)Z"⟩, 12), (⟨"RipeHoursModel", "deals", "(IIII)I"⟩, 12), (⟨"RipeHoursModel", "passes", "(I)I"⟩, 12), (⟨"RipeHoursModel", "weekOf", "(I)I"⟩, 12), (⟨"RipeHoursModel", "canMove", "(II)Z"⟩, 12), (⟨"RipeHoursModel", "canVote", "(I)Z"⟩, 12), (⟨"RipeHoursModel", "rightUpTo", "()I"⟩, 12), (⟨"RipeHoursModel", "takes", "(I)Z"⟩, 12), (⟨"RipeHoursModel", "takesMember", "(I)Z"⟩, 12), (⟨"RipeHoursModel", "takesDigit", "(I)Z"⟩, 12), (⟨"RipeHoursModel", "makes", "(I)Z"⟩, 12), (⟨"RipeHoursModel", "memberNow", "(II)I"⟩, 12), (⟨"RipeHoursModel", "skillNow", "(III)I"⟩, 12), (⟨"RipeHoursModel", "counted", "(I)I"⟩, 12), (⟨"RipeHoursModel", "sumOfBalances", "(Z)I"⟩, 12)]
theorem lw_r2 : ∀ q ∈ lw_privs_2, lw_okq q := List.forall_mem_cons.mpr ⟨lw_p16, List.forall_mem_cons.mpr ⟨lw_p17, List.forall_mem_cons.mpr ⟨lw_p18, List.forall_mem_cons.mpr ⟨lw_p19, List.forall_mem_cons.mpr ⟨lw_p20, List.forall_mem_cons.mpr ⟨lw_p21, List.forall_mem_cons.mpr ⟨lw_p22, List.forall_mem_cons.mpr ⟨lw_p23, List.forall_mem_cons.mpr ⟨lw_p24, List.forall_mem_cons.mpr ⟨lw_p25, List.forall_mem_cons.mpr ⟨lw_p26, List.forall_mem_cons.mpr ⟨lw_p27, List.forall_mem_cons.mpr ⟨lw_p28, List.forall_mem_cons.mpr ⟨lw_p29, List.forall_mem_cons.mpr ⟨lw_p30, List.forall_mem_cons.mpr ⟨lw_p31, fun _ h => absurd h List.not_mem_nil⟩⟩⟩⟩⟩⟩⟩⟩⟩⟩⟩⟩⟩⟩⟩⟩
theorem lw_p32 : lw_okq (⟨"RipeHoursModel", "sumOf", "(I)I"⟩, 12) := ⟨⟨by decide +kernel, by decide +kernel⟩, List.mem_of_getElem? (i := 786) (by decide +kernel), List.mem_of_getElem? (i := 1034) (by decide +kernel), List.mem_of_getElem? (i := 1035) (by decide +kernel)⟩
theorem lw_p33 : lw_okq (⟨"RipeHoursModel", "longestNow", "(III)I"⟩, 12) := ⟨⟨by decide +kernel, by decide +kernel⟩, List.mem_of_getElem? (i := 786) (by decide +kernel), List.mem_of_getElem? (i := 1050) (by decide +kernel), List.mem_of_getElem? (i := 1051) (by decide +kernel)⟩
theorem lw_p34 : lw_okq (⟨"RipeHoursModel", "cheapestNow", "(III)I"⟩, 12) := ⟨⟨by decide +kernel, by decide +kernel⟩, List.mem_of_getElem? (i := 786) (by decide +kernel), List.mem_of_getElem? (i := 1058) (by decide +kernel), List.mem_of_getElem? (i := 1059) (by decide +kernel)⟩
theorem lw_p35 : lw_okq (⟨"RipeHoursModel", "decaysThen", "(II)I"⟩, 12) := ⟨⟨by decide +kernel, by decide +kernel⟩, List.mem_of_getElem? (i := 786) (by decide +kernel), List.mem_of_getElem? (i := 1066) (by decide +kernel), List.mem_of_getElem? (i := 1067) (by decide +kernel)⟩
theorem lw_p36 : lw_okq (⟨"RipeHoursModel", "needed", "()I"⟩, 12) := ⟨⟨by decide +kernel, by decide +kernel⟩, List.mem_of_getElem? (i := 786) (by decide +kernel), List.mem_of_getElem? (i := 1074) (by decide +kernel), List.mem_of_getElem? (i := 1075) (by decide +kernel)⟩
theorem lw_p37 : lw_okq (⟨"RipeHoursModel", "ripestNow", "(I)I"⟩, 12) := ⟨⟨by decide +kernel, by decide +kernel⟩, List.mem_of_getElem? (i := 786) (by decide +kernel), List.mem_of_getElem? (i := 1082) (by decide +kernel), List.mem_of_getElem? (i := 1083) (by decide +kernel)⟩
theorem lw_p38 : lw_okq (⟨"RipeHoursModel", "meanWorth", "()D"⟩, 12) := ⟨⟨by decide +kernel, by decide +kernel⟩, List.mem_of_getElem? (i := 786) (by decide +kernel), List.mem_of_getElem? (i := 1090) (by decide +kernel), List.mem_of_getElem? (i := 1091) (by decide +kernel)⟩
theorem lw_p39 : lw_okq (⟨"RipeHoursModel", "mix", "(J)V"⟩, 12) := ⟨⟨by decide +kernel, by decide +kernel⟩, List.mem_of_getElem? (i := 786) (by decide +kernel), List.mem_of_getElem? (i := 1099) (by decide +kernel), List.mem_of_getElem? (i := 1100) (by decide +kernel)⟩
theorem lw_p40 : lw_okq (⟨"RipeHoursModel", "mixMember", "(I)V"⟩, 12) := ⟨⟨by decide +kernel, by decide +kernel⟩, List.mem_of_getElem? (i := 786) (by decide +kernel), List.mem_of_getElem? (i := 1104) (by decide +kernel), List.mem_of_getElem? (i := 1105) (by decide +kernel)⟩
def lw_privs_3 : List (MethodName × Nat) := [(⟨"RipeHoursModel", "sumOf", "(I)I"⟩, 12), (⟨"RipeHoursModel", "longestNow", "(III)I"⟩, 12), (⟨"RipeHoursModel", "cheapestNow", "(III)I"⟩, 12), (⟨"RipeHoursModel", "decaysThen", "(II)I"⟩, 12), (⟨"RipeHoursModel", "needed", "()I"⟩, 12), (⟨"RipeHoursModel", "ripestNow", "(I)I"⟩, 12), (⟨"RipeHoursModel", "meanWorth", "()D"⟩, 12), (⟨"RipeHoursModel", "mix", "(J)V"⟩, 12), (⟨"RipeHoursModel", "mixMember", "(I)V"⟩, 12)]
theorem lw_r3 : ∀ q ∈ lw_privs_3, lw_okq q := List.forall_mem_cons.mpr ⟨lw_p32, List.forall_mem_cons.mpr ⟨lw_p33, List.forall_mem_cons.mpr ⟨lw_p34, List.forall_mem_cons.mpr ⟨lw_p35, List.forall_mem_cons.mpr ⟨lw_p36, List.forall_mem_cons.mpr ⟨lw_p37, List.forall_mem_cons.mpr ⟨lw_p38, List.forall_mem_cons.mpr ⟨lw_p39, List.forall_mem_cons.mpr ⟨lw_p40, fun _ h => absurd h List.not_mem_nil⟩⟩⟩⟩⟩⟩⟩⟩⟩
def lw_privs : List (MethodName × Nat) := lw_privs_1 ++ (lw_privs_2 ++ (lw_privs_3))
def lw_tbl : List Cond := k2_sels lw_privs ++ tables_1
theorem lw_privs_ok : ∀ q ∈ lw_privs, lw_okq q := by
  show ∀ q ∈ lw_privs_1 ++ (lw_privs_2 ++ (lw_privs_3)), lw_okq q
  exact List.forall_mem_append.mpr ⟨lw_r1, List.forall_mem_append.mpr ⟨lw_r2, lw_r3⟩⟩
/-- the streams that the claim lets the run draw from -/
abbrev lw_cs : List Choice := [Jvm.Choice.named "NaN.bits"]
theorem lw_bits : nanBits ∈ lw_cs := by first | decide | exact List.mem_cons_self | simp [lw_cs, nanBits]
-- ===== end of PART A; then your names; then what follows =====
end
section
def RX0 : String := "RipeHours$Bank"
def TX0 : u_T := fun k => match k with
  | 0 => ("RipeHours$Bank", "members", "[LRipeHours$Member;", true)
  | 1 => ("RipeHours$Bank", "settings", "[I", true)
  | 2 => ("RipeHours$Bank", "came", "I", false)
  | 3 => ("RipeHours$Bank", "common", "I", false)
  | 4 => ("RipeHours$Bank", "forgiven", "I", false)
  | 5 => ("RipeHours$Bank", "week", "I", false)
  | 6 => ("RipeHours$Bank", "deals", "I", false)
  | 7 => ("RipeHours$Bank", "debtor", "I", false)
  | _ => ("RipeHours$Bank", "motionMinutes", "I", false)
def tyX0 : Nat → FieldType := fun k => match k with
  | 0 => .array (.object "RipeHours$Member")
  | 1 => .array .int
  | 2 => .int
  | 3 => .int
  | 4 => .int
  | 5 => .int
  | 6 => .int
  | 7 => .int
  | _ => .int
abbrev wsX00 : List Cond := u_ws RX0 TX0 9
theorem nmX0 : ∀ a, a < 9 → ∀ b, b < 9 → a ≠ b → (TX0 a).2.1 ≠ (TX0 b).2.1 := by decide +kernel
theorem tyX0_ok : ∀ k, k < 9 → parseFieldDescriptor (TX0 k).2.2.1 = some (tyX0 k) := by decide +kernel
abbrev cX0_init : ByteArray := prog_2_method_1_code
def yX0_init : MethodName := ⟨RX0, "<init>", "()V"⟩
abbrev cX0_copyFrom : ByteArray := prog_2_method_2_code
def yX0_copyFrom : MethodName := ⟨RX0, "copyFrom", "(LRipeHours$Bank;)V"⟩
abbrev cX0_isMember : ByteArray := prog_2_method_3_code
def yX0_isMember : MethodName := ⟨RX0, "isMember", "(I)Z"⟩
abbrev cX0_admit : ByteArray := prog_2_method_4_code
def yX0_admit : MethodName := ⟨RX0, "admit", "()I"⟩
abbrev cX0_dismiss : ByteArray := prog_2_method_5_code
def yX0_dismiss : MethodName := ⟨RX0, "dismiss", "(I)I"⟩
abbrev cX0_payToCommon : ByteArray := prog_2_method_6_code
def yX0_payToCommon : MethodName := ⟨RX0, "payToCommon", "(II)V"⟩
abbrev cX0_allowsDeal : ByteArray := prog_2_method_7_code
def yX0_allowsDeal : MethodName := ⟨RX0, "allowsDeal", "(IIII)Z"⟩
abbrev cX0_areBothThere : ByteArray := prog_2_method_8_code
def yX0_areBothThere : MethodName := ⟨RX0, "areBothThere", "(II)Z"⟩
abbrev cX0_canPay : ByteArray := prog_2_method_9_code
def yX0_canPay : MethodName := ⟨RX0, "canPay", "(II)Z"⟩
abbrev cX0_makeDeal : ByteArray := prog_2_method_10_code
def yX0_makeDeal : MethodName := ⟨RX0, "makeDeal", "(IIII)I"⟩
abbrev cX0_payLoanBack : ByteArray := prog_2_method_11_code
def yX0_payLoanBack : MethodName := ⟨RX0, "payLoanBack", "(II)V"⟩
abbrev cX0_longestDeal : ByteArray := prog_2_method_12_code
def yX0_longestDeal : MethodName := ⟨RX0, "longestDeal", "(III)I"⟩
abbrev cX0_cheapestGiver : ByteArray := prog_2_method_13_code
def yX0_cheapestGiver : MethodName := ⟨RX0, "cheapestGiver", "(III)I"⟩
abbrev cX0_isCheaper : ByteArray := prog_2_method_14_code
def yX0_isCheaper : MethodName := ⟨RX0, "isCheaper", "(IIII)Z"⟩
abbrev cX0_mostPractised : ByteArray := prog_2_method_15_code
def yX0_mostPractised : MethodName := ⟨RX0, "mostPractised", "(I)I"⟩
abbrev cX0_valueOfMinute : ByteArray := prog_2_method_16_code
def yX0_valueOfMinute : MethodName := ⟨RX0, "valueOfMinute", "()D"⟩
abbrev cX0_endWeek : ByteArray := prog_2_method_17_code
def yX0_endWeek : MethodName := ⟨RX0, "endWeek", "()I"⟩
abbrev cX0_endWeekOf : ByteArray := prog_2_method_18_code
def yX0_endWeekOf : MethodName := ⟨RX0, "endWeekOf", "(I)I"⟩
abbrev cX0_foreseenDecay : ByteArray := prog_2_method_19_code
def yX0_foreseenDecay : MethodName := ⟨RX0, "foreseenDecay", "(II)I"⟩
abbrev cX0_hasMotion : ByteArray := prog_2_method_20_code
def yX0_hasMotion : MethodName := ⟨RX0, "hasMotion", "()Z"⟩
abbrev cX0_allowsMotion : ByteArray := prog_2_method_21_code
def yX0_allowsMotion : MethodName := ⟨RX0, "allowsMotion", "(II)Z"⟩
abbrev cX0_openMotion : ByteArray := prog_2_method_22_code
def yX0_openMotion : MethodName := ⟨RX0, "openMotion", "(II)V"⟩
abbrev cX0_dropMotion : ByteArray := prog_2_method_23_code
def yX0_dropMotion : MethodName := ⟨RX0, "dropMotion", "()V"⟩
abbrev cX0_canVote : ByteArray := prog_2_method_24_code
def yX0_canVote : MethodName := ⟨RX0, "canVote", "(I)Z"⟩
abbrev cX0_countBallots : ByteArray := prog_2_method_25_code
def yX0_countBallots : MethodName := ⟨RX0, "countBallots", "(I)I"⟩
abbrev cX0_countVoters : ByteArray := prog_2_method_26_code
def yX0_countVoters : MethodName := ⟨RX0, "countVoters", "()I"⟩
abbrev cX0_settleMotion : ByteArray := prog_2_method_27_code
def yX0_settleMotion : MethodName := ⟨RX0, "settleMotion", "()I"⟩
abbrev cX0_forgive : ByteArray := prog_2_method_28_code
def yX0_forgive : MethodName := ⟨RX0, "forgive", "()V"⟩
abbrev cX0_missingVotes : ByteArray := prog_2_method_29_code
def yX0_missingVotes : MethodName := ⟨RX0, "missingVotes", "()I"⟩
abbrev cX0_countThere : ByteArray := prog_2_method_30_code
def yX0_countThere : MethodName := ⟨RX0, "countThere", "()I"⟩
abbrev cX0_sumOfCredits : ByteArray := prog_2_method_31_code
def yX0_sumOfCredits : MethodName := ⟨RX0, "sumOfCredits", "()I"⟩
abbrev cX0_sumOfDebts : ByteArray := prog_2_method_32_code
def yX0_sumOfDebts : MethodName := ⟨RX0, "sumOfDebts", "()I"⟩
abbrev cX0_sumOfLoans : ByteArray := prog_2_method_33_code
def yX0_sumOfLoans : MethodName := ⟨RX0, "sumOfLoans", "()I"⟩
abbrev cX0_memberProperty : ByteArray := prog_2_method_34_code
def yX0_memberProperty : MethodName := ⟨RX0, "memberProperty", "(II)I"⟩
def RX1 : String := "RipeHours$DealReader"
def TX1 : u_T := fun k => match k with
  | 0 => ("RipeHours$DealReader", "place", "I", false)
  | 1 => ("RipeHours$DealReader", "giver", "I", false)
  | 2 => ("RipeHours$DealReader", "taker", "I", false)
  | 3 => ("RipeHours$DealReader", "skill", "I", false)
  | _ => ("RipeHours$DealReader", "minutes", "I", false)
def tyX1 : Nat → FieldType := fun k => match k with
  | 0 => .int
  | 1 => .int
  | 2 => .int
  | 3 => .int
  | _ => .int
abbrev wsX10 : List Cond := u_ws RX1 TX1 5
theorem nmX1 : ∀ a, a < 5 → ∀ b, b < 5 → a ≠ b → (TX1 a).2.1 ≠ (TX1 b).2.1 := by decide +kernel
theorem tyX1_ok : ∀ k, k < 5 → parseFieldDescriptor (TX1 k).2.2.1 = some (tyX1 k) := by decide +kernel
abbrev cX1_init : ByteArray := prog_3_method_1_code
def yX1_init : MethodName := ⟨RX1, "<init>", "()V"⟩
abbrev cX1_restart : ByteArray := prog_3_method_2_code
def yX1_restart : MethodName := ⟨RX1, "restart", "()V"⟩
abbrev cX1_isDealWhole : ByteArray := prog_3_method_3_code
def yX1_isDealWhole : MethodName := ⟨RX1, "isDealWhole", "()Z"⟩
abbrev cX1_takes : ByteArray := prog_3_method_4_code
def yX1_takes : MethodName := ⟨RX1, "takes", "(C)Z"⟩
abbrev cX1_takesGiver : ByteArray := prog_3_method_5_code
def yX1_takesGiver : MethodName := ⟨RX1, "takesGiver", "(I)Z"⟩
abbrev cX1_takesMark : ByteArray := prog_3_method_6_code
def yX1_takesMark : MethodName := ⟨RX1, "takesMark", "(CC)Z"⟩
abbrev cX1_takesTaker : ByteArray := prog_3_method_7_code
def yX1_takesTaker : MethodName := ⟨RX1, "takesTaker", "(I)Z"⟩
abbrev cX1_takesSkill : ByteArray := prog_3_method_8_code
def yX1_takesSkill : MethodName := ⟨RX1, "takesSkill", "(I)Z"⟩
abbrev cX1_takesDigit : ByteArray := prog_3_method_9_code
def yX1_takesDigit : MethodName := ⟨RX1, "takesDigit", "(I)Z"⟩
abbrev cX1_takesEnd : ByteArray := prog_3_method_10_code
def yX1_takesEnd : MethodName := ⟨RX1, "takesEnd", "()Z"⟩
abbrev cX1_makesDeal : ByteArray := prog_3_method_11_code
def yX1_makesDeal : MethodName := ⟨RX1, "makesDeal", "(LRipeHours$Bank;)Z"⟩
def RX2 : String := "RipeHours$DealText"
def TX2 : u_T := fun k => match k with
  | 0 => ("RipeHours$DealText", "signs", "[C", true)
  | 1 => ("RipeHours$DealText", "reader", "LRipeHours$DealReader;", true)
  | _ => ("RipeHours$DealText", "size", "I", false)
def tyX2 : Nat → FieldType := fun k => match k with
  | 0 => .array .char
  | 1 => .object "RipeHours$DealReader"
  | _ => .int
abbrev wsX20 : List Cond := u_ws RX2 TX2 3
theorem nmX2 : ∀ a, a < 3 → ∀ b, b < 3 → a ≠ b → (TX2 a).2.1 ≠ (TX2 b).2.1 := by decide +kernel
theorem tyX2_ok : ∀ k, k < 3 → parseFieldDescriptor (TX2 k).2.2.1 = some (tyX2 k) := by decide +kernel
abbrev cX2_init : ByteArray := prog_4_method_1_code
def yX2_init : MethodName := ⟨RX2, "<init>", "()V"⟩
abbrev cX2_addSign : ByteArray := prog_4_method_2_code
def yX2_addSign : MethodName := ⟨RX2, "addSign", "(C)V"⟩
abbrev cX2_findError : ByteArray := prog_4_method_3_code
def yX2_findError : MethodName := ⟨RX2, "findError", "()I"⟩
abbrev cX2_isWholeRow : ByteArray := prog_4_method_4_code
def yX2_isWholeRow : MethodName := ⟨RX2, "isWholeRow", "()Z"⟩
abbrev cX2_makeDeals : ByteArray := prog_4_method_5_code
def yX2_makeDeals : MethodName := ⟨RX2, "makeDeals", "(LRipeHours$Bank;)I"⟩
def RX3 : String := "RipeHours$History"
def TX3 : u_T := fun k => match k with
  | 0 => ("RipeHours$History", "states", "[LRipeHours$Bank;", true)
  | 1 => ("RipeHours$History", "next", "I", false)
  | _ => ("RipeHours$History", "kept", "I", false)
def tyX3 : Nat → FieldType := fun k => match k with
  | 0 => .array (.object "RipeHours$Bank")
  | 1 => .int
  | _ => .int
abbrev wsX30 : List Cond := u_ws RX3 TX3 3
theorem nmX3 : ∀ a, a < 3 → ∀ b, b < 3 → a ≠ b → (TX3 a).2.1 ≠ (TX3 b).2.1 := by decide +kernel
theorem tyX3_ok : ∀ k, k < 3 → parseFieldDescriptor (TX3 k).2.2.1 = some (tyX3 k) := by decide +kernel
abbrev cX3_init : ByteArray := prog_5_method_1_code
def yX3_init : MethodName := ⟨RX3, "<init>", "()V"⟩
abbrev cX3_keep : ByteArray := prog_5_method_2_code
def yX3_keep : MethodName := ⟨RX3, "keep", "(LRipeHours$Bank;)V"⟩
abbrev cX3_restore : ByteArray := prog_5_method_3_code
def yX3_restore : MethodName := ⟨RX3, "restore", "(LRipeHours$Bank;)V"⟩
def RX4 : String := "RipeHours$Member"
def TX4 : u_T := fun k => match k with
  | 0 => ("RipeHours$Member", "practice", "[I", true)
  | 1 => ("RipeHours$Member", "isThere", "Z", false)
  | 2 => ("RipeHours$Member", "isBusy", "Z", false)
  | 3 => ("RipeHours$Member", "balance", "I", false)
  | 4 => ("RipeHours$Member", "loan", "I", false)
  | 5 => ("RipeHours$Member", "idleWeeks", "I", false)
  | 6 => ("RipeHours$Member", "minutesGiven", "I", false)
  | 7 => ("RipeHours$Member", "minutesTaken", "I", false)
  | 8 => ("RipeHours$Member", "earned", "I", false)
  | 9 => ("RipeHours$Member", "paid", "I", false)
  | 10 => ("RipeHours$Member", "decayed", "I", false)
  | 11 => ("RipeHours$Member", "forgiven", "I", false)
  | _ => ("RipeHours$Member", "ballot", "I", false)
def tyX4 : Nat → FieldType := fun k => match k with
  | 0 => .array .int
  | 1 => .boolean
  | 2 => .boolean
  | 3 => .int
  | 4 => .int
  | 5 => .int
  | 6 => .int
  | 7 => .int
  | 8 => .int
  | 9 => .int
  | 10 => .int
  | 11 => .int
  | _ => .int
abbrev wsX40 : List Cond := u_ws RX4 TX4 13
theorem nmX4 : ∀ a, a < 13 → ∀ b, b < 13 → a ≠ b → (TX4 a).2.1 ≠ (TX4 b).2.1 := by decide +kernel
theorem tyX4_ok : ∀ k, k < 13 → parseFieldDescriptor (TX4 k).2.2.1 = some (tyX4 k) := by decide +kernel
abbrev cX4_init : ByteArray := prog_6_method_1_code
def yX4_init : MethodName := ⟨RX4, "<init>", "()V"⟩
abbrev cX4_copyFrom : ByteArray := prog_6_method_2_code
def yX4_copyFrom : MethodName := ⟨RX4, "copyFrom", "(LRipeHours$Member;)V"⟩
abbrev cX4_ripeness : ByteArray := prog_6_method_3_code
def yX4_ripeness : MethodName := ⟨RX4, "ripeness", "(I)I"⟩
abbrev cX4_dealRate : ByteArray := prog_6_method_4_code
def yX4_dealRate : MethodName := ⟨RX4, "dealRate", "(I)I"⟩
abbrev cX4_dealValue : ByteArray := prog_6_method_5_code
def yX4_dealValue : MethodName := ⟨RX4, "dealValue", "(II)I"⟩
abbrev cX4_practise : ByteArray := prog_6_method_6_code
def yX4_practise : MethodName := ⟨RX4, "practise", "(II)V"⟩
abbrev cX4_rust : ByteArray := prog_6_method_7_code
def yX4_rust : MethodName := ⟨RX4, "rust", "(I)V"⟩
def RX5 : String := "RipeHours"
def TX5 : u_T := fun k => match k with
  | 0 => ("RipeHours", "bank", "LRipeHours$Bank;", true)
  | 1 => ("RipeHours", "history", "LRipeHours$History;", true)
  | _ => ("RipeHours", "text", "LRipeHours$DealText;", true)
def tyX5 : Nat → FieldType := fun k => match k with
  | 0 => .object "RipeHours$Bank"
  | 1 => .object "RipeHours$History"
  | _ => .object "RipeHours$DealText"
abbrev wsX50 : List Cond := u_ws RX5 TX5 3
theorem nmX5 : ∀ a, a < 3 → ∀ b, b < 3 → a ≠ b → (TX5 a).2.1 ≠ (TX5 b).2.1 := by decide +kernel
theorem tyX5_ok : ∀ k, k < 3 → parseFieldDescriptor (TX5 k).2.2.1 = some (tyX5 k) := by decide +kernel
abbrev cX5_init : ByteArray := prog_1_method_1_code
def yX5_init : MethodName := ⟨RX5, "<init>", "()V"⟩
abbrev cX5_join : ByteArray := prog_1_method_2_code
def yX5_join : MethodName := ⟨RX5, "join", "()I"⟩
abbrev cX5_leave : ByteArray := prog_1_method_3_code
def yX5_leave : MethodName := ⟨RX5, "leave", "(I)I"⟩
abbrev cX5_give : ByteArray := prog_1_method_4_code
def yX5_give : MethodName := ⟨RX5, "give", "(IIII)I"⟩
abbrev cX5_donate : ByteArray := prog_1_method_5_code
def yX5_donate : MethodName := ⟨RX5, "donate", "(II)I"⟩
abbrev cX5_pass : ByteArray := prog_1_method_6_code
def yX5_pass : MethodName := ⟨RX5, "pass", "(I)I"⟩
abbrev cX5_set : ByteArray := prog_1_method_7_code
def yX5_set : MethodName := ⟨RX5, "set", "(II)I"⟩
abbrev cX5_move : ByteArray := prog_1_method_8_code
def yX5_move : MethodName := ⟨RX5, "move", "(II)I"⟩
abbrev cX5_vote : ByteArray := prog_1_method_9_code
def yX5_vote : MethodName := ⟨RX5, "vote", "(IZ)I"⟩
abbrev cX5_takeBack : ByteArray := prog_1_method_10_code
def yX5_takeBack : MethodName := ⟨RX5, "takeBack", "()I"⟩
abbrev cX5_append : ByteArray := prog_1_method_11_code
def yX5_append : MethodName := ⟨RX5, "append", "(I)I"⟩
abbrev cX5_clearBuffer : ByteArray := prog_1_method_12_code
def yX5_clearBuffer : MethodName := ⟨RX5, "clearBuffer", "()I"⟩
abbrev cX5_firstError : ByteArray := prog_1_method_13_code
def yX5_firstError : MethodName := ⟨RX5, "firstError", "()I"⟩
abbrev cX5_run : ByteArray := prog_1_method_14_code
def yX5_run : MethodName := ⟨RX5, "run", "()I"⟩
abbrev cX5_undo : ByteArray := prog_1_method_15_code
def yX5_undo : MethodName := ⟨RX5, "undo", "()I"⟩
abbrev cX5_member : ByteArray := prog_1_method_16_code
def yX5_member : MethodName := ⟨RX5, "member", "(II)I"⟩
abbrev cX5_skill : ByteArray := prog_1_method_17_code
def yX5_skill : MethodName := ⟨RX5, "skill", "(III)I"⟩
abbrev cX5_count : ByteArray := prog_1_method_18_code
def yX5_count : MethodName := ⟨RX5, "count", "(I)I"⟩
abbrev cX5_setting : ByteArray := prog_1_method_19_code
def yX5_setting : MethodName := ⟨RX5, "setting", "(I)I"⟩
abbrev cX5_worth : ByteArray := prog_1_method_20_code
def yX5_worth : MethodName := ⟨RX5, "worth", "(III)I"⟩
abbrev cX5_longest : ByteArray := prog_1_method_21_code
def yX5_longest : MethodName := ⟨RX5, "longest", "(III)I"⟩
abbrev cX5_cheapest : ByteArray := prog_1_method_22_code
def yX5_cheapest : MethodName := ⟨RX5, "cheapest", "(III)I"⟩
abbrev cX5_decayIn : ByteArray := prog_1_method_23_code
def yX5_decayIn : MethodName := ⟨RX5, "decayIn", "(II)I"⟩
abbrev cX5_votesNeeded : ByteArray := prog_1_method_24_code
def yX5_votesNeeded : MethodName := ⟨RX5, "votesNeeded", "()I"⟩
abbrev cX5_ripest : ByteArray := prog_1_method_25_code
def yX5_ripest : MethodName := ⟨RX5, "ripest", "(I)I"⟩
abbrev cX5_minuteWorth : ByteArray := prog_1_method_26_code
def yX5_minuteWorth : MethodName := ⟨RX5, "minuteWorth", "()D"⟩
abbrev cX5_digest : ByteArray := prog_1_method_27_code
def yX5_digest : MethodName := ⟨RX5, "digest", "()J"⟩
abbrev cX5_mixedMember : ByteArray := prog_1_method_28_code
def yX5_mixedMember : MethodName := ⟨RX5, "mixedMember", "(JI)J"⟩
abbrev cX5_mixedText : ByteArray := prog_1_method_29_code
def yX5_mixedText : MethodName := ⟨RX5, "mixedText", "(J)J"⟩
abbrev cX5_number : ByteArray := prog_1_method_30_code
def yX5_number : MethodName := ⟨RX5, "number", "(I)I"⟩
abbrev cX5_mixed : ByteArray := prog_1_method_31_code
def yX5_mixed : MethodName := ⟨RX5, "mixed", "(JJ)J"⟩
abbrev cX5_bitsOfWorth : ByteArray := prog_1_method_32_code
def yX5_bitsOfWorth : MethodName := ⟨RX5, "bitsOfWorth", "(D)J"⟩
abbrev cX5_isWithin : ByteArray := prog_1_method_33_code
def yX5_isWithin : MethodName := ⟨RX5, "isWithin", "(III)Z"⟩
abbrev cX5_isSkill : ByteArray := prog_1_method_34_code
def yX5_isSkill : MethodName := ⟨RX5, "isSkill", "(I)Z"⟩
abbrev cX5_isSetting : ByteArray := prog_1_method_35_code
def yX5_isSetting : MethodName := ⟨RX5, "isSetting", "(I)Z"⟩
abbrev cX5_isDealMinutes : ByteArray := prog_1_method_36_code
def yX5_isDealMinutes : MethodName := ⟨RX5, "isDealMinutes", "(I)Z"⟩
abbrev cX5_decayingPart : ByteArray := prog_1_method_37_code
def yX5_decayingPart : MethodName := ⟨RX5, "decayingPart", "(II)I"⟩
def RX6 : String := "RipeHoursModel"
def TX6 : u_T := fun k => match k with
  | 0 => ("RipeHoursModel", "z", "[I", true)
  | 1 => ("RipeHoursModel", "states", "I", false)
  | 2 => ("RipeHoursModel", "history", "[I", true)
  | 3 => ("RipeHoursModel", "length", "I", false)
  | 4 => ("RipeHoursModel", "text", "[I", true)
  | 5 => ("RipeHoursModel", "thrown", "I", false)
  | 6 => ("RipeHoursModel", "parts", "[I", true)
  | 7 => ("RipeHoursModel", "read", "I", false)
  | 8 => ("RipeHoursModel", "number", "I", false)
  | 9 => ("RipeHoursModel", "due", "I", false)
  | 10 => ("RipeHoursModel", "kept", "[I", true)
  | _ => ("RipeHoursModel", "hash", "J", false)
def tyX6 : Nat → FieldType := fun k => match k with
  | 0 => .array .int
  | 1 => .int
  | 2 => .array .int
  | 3 => .int
  | 4 => .array .int
  | 5 => .int
  | 6 => .array .int
  | 7 => .int
  | 8 => .int
  | 9 => .int
  | 10 => .array .int
  | _ => .long
abbrev wsX60 : List Cond := u_ws RX6 TX6 12
theorem nmX6 : ∀ a, a < 12 → ∀ b, b < 12 → a ≠ b → (TX6 a).2.1 ≠ (TX6 b).2.1 := by decide +kernel
theorem tyX6_ok : ∀ k, k < 12 → parseFieldDescriptor (TX6 k).2.2.1 = some (tyX6 k) := by decide +kernel
abbrev cX6_init : ByteArray := prog_8_method_1_code
def yX6_init : MethodName := ⟨RX6, "<init>", "()V"⟩
abbrev cX6_thrown : ByteArray := prog_8_method_2_code
def yX6_thrown : MethodName := ⟨RX6, "thrown", "()I"⟩
abbrev cX6_within : ByteArray := prog_8_method_3_code
def yX6_within : MethodName := ⟨RX6, "within", "(III)Z"⟩
abbrev cX6_save : ByteArray := prog_8_method_4_code
def yX6_save : MethodName := ⟨RX6, "save", "()V"⟩
abbrev cX6_has : ByteArray := prog_8_method_5_code
def yX6_has : MethodName := ⟨RX6, "has", "(II)Z"⟩
abbrev cX6_ones : ByteArray := prog_8_method_6_code
def yX6_ones : MethodName := ⟨RX6, "ones", "(I)I"⟩
abbrev cX6_of : ByteArray := prog_8_method_7_code
def yX6_of : MethodName := ⟨RX6, "of", "(II)I"⟩
abbrev cX6_add : ByteArray := prog_8_method_8_code
def yX6_add : MethodName := ⟨RX6, "add", "(III)V"⟩
abbrev cX6_put : ByteArray := prog_8_method_9_code
def yX6_put : MethodName := ⟨RX6, "put", "(III)V"⟩
abbrev cX6_isMember : ByteArray := prog_8_method_10_code
def yX6_isMember : MethodName := ⟨RX6, "isMember", "(I)Z"⟩
abbrev cX6_isThere : ByteArray := prog_8_method_11_code
def yX6_isThere : MethodName := ⟨RX6, "isThere", "(I)Z"⟩
abbrev cX6_isSkill : ByteArray := prog_8_method_12_code
def yX6_isSkill : MethodName := ⟨RX6, "isSkill", "(I)Z"⟩
abbrev cX6_areMinutes : ByteArray := prog_8_method_13_code
def yX6_areMinutes : MethodName := ⟨RX6, "areMinutes", "(I)Z"⟩
abbrev cX6_allThere : ByteArray := prog_8_method_14_code
def yX6_allThere : MethodName := ⟨RX6, "allThere", "()I"⟩
abbrev cX6_othersOf : ByteArray := prog_8_method_15_code
def yX6_othersOf : MethodName := ⟨RX6, "othersOf", "(I)I"⟩
abbrev cX6_endMotion : ByteArray := prog_8_method_16_code
def yX6_endMotion : MethodName := ⟨RX6, "endMotion", "()V"⟩
abbrev cX6_lookAt : ByteArray := prog_8_method_17_code
def yX6_lookAt : MethodName := ⟨RX6, "lookAt", "()I"⟩
abbrev cX6_join : ByteArray := prog_8_method_18_code
def yX6_join : MethodName := ⟨RX6, "join", "()I"⟩
abbrev cX6_leave : ByteArray := prog_8_method_19_code
def yX6_leave : MethodName := ⟨RX6, "leave", "(I)I"⟩
abbrev cX6_ripenessOf : ByteArray := prog_8_method_20_code
def yX6_ripenessOf : MethodName := ⟨RX6, "ripenessOf", "(II)I"⟩
abbrev cX6_valueOf : ByteArray := prog_8_method_21_code
def yX6_valueOf : MethodName := ⟨RX6, "valueOf", "(III)I"⟩
abbrev cX6_canPay : ByteArray := prog_8_method_22_code
def yX6_canPay : MethodName := ⟨RX6, "canPay", "(II)Z"⟩
abbrev cX6_canDeal : ByteArray := prog_8_method_23_code
def yX6_canDeal : MethodName := ⟨RX6, "canDeal", "(IIII)Z"⟩
abbrev cX6_deals : ByteArray := prog_8_method_24_code
def yX6_deals : MethodName := ⟨RX6, "deals", "(IIII)I"⟩
abbrev cX6_give : ByteArray := prog_8_method_25_code
def yX6_give : MethodName := ⟨RX6, "give", "(IIII)I"⟩
abbrev cX6_donate : ByteArray := prog_8_method_26_code
def yX6_donate : MethodName := ⟨RX6, "donate", "(II)I"⟩
abbrev cX6_weekOf : ByteArray := prog_8_method_27_code
def yX6_weekOf : MethodName := ⟨RX6, "weekOf", "(I)I"⟩
abbrev cX6_passes : ByteArray := prog_8_method_28_code
def yX6_passes : MethodName := ⟨RX6, "passes", "(I)I"⟩
abbrev cX6_pass : ByteArray := prog_8_method_29_code
def yX6_pass : MethodName := ⟨RX6, "pass", "(I)I"⟩
abbrev cX6_isSetting : ByteArray := prog_8_method_30_code
def yX6_isSetting : MethodName := ⟨RX6, "isSetting", "(I)Z"⟩
abbrev cX6_greatest : ByteArray := prog_8_method_31_code
def yX6_greatest : MethodName := ⟨RX6, "greatest", "(I)I"⟩
abbrev cX6_set : ByteArray := prog_8_method_32_code
def yX6_set : MethodName := ⟨RX6, "set", "(II)I"⟩
abbrev cX6_canMove : ByteArray := prog_8_method_33_code
def yX6_canMove : MethodName := ⟨RX6, "canMove", "(II)Z"⟩
abbrev cX6_move : ByteArray := prog_8_method_34_code
def yX6_move : MethodName := ⟨RX6, "move", "(II)I"⟩
abbrev cX6_canVote : ByteArray := prog_8_method_35_code
def yX6_canVote : MethodName := ⟨RX6, "canVote", "(I)Z"⟩
abbrev cX6_vote : ByteArray := prog_8_method_36_code
def yX6_vote : MethodName := ⟨RX6, "vote", "(IZ)I"⟩
abbrev cX6_takeBack : ByteArray := prog_8_method_37_code
def yX6_takeBack : MethodName := ⟨RX6, "takeBack", "()I"⟩
abbrev cX6_append : ByteArray := prog_8_method_38_code
def yX6_append : MethodName := ⟨RX6, "append", "(I)I"⟩
abbrev cX6_clearBuffer : ByteArray := prog_8_method_39_code
def yX6_clearBuffer : MethodName := ⟨RX6, "clearBuffer", "()I"⟩
abbrev cX6_takesDigit : ByteArray := prog_8_method_40_code
def yX6_takesDigit : MethodName := ⟨RX6, "takesDigit", "(I)Z"⟩
abbrev cX6_takesMember : ByteArray := prog_8_method_41_code
def yX6_takesMember : MethodName := ⟨RX6, "takesMember", "(I)Z"⟩
abbrev cX6_takes : ByteArray := prog_8_method_42_code
def yX6_takes : MethodName := ⟨RX6, "takes", "(I)Z"⟩
abbrev cX6_rightUpTo : ByteArray := prog_8_method_43_code
def yX6_rightUpTo : MethodName := ⟨RX6, "rightUpTo", "()I"⟩
abbrev cX6_firstError : ByteArray := prog_8_method_44_code
def yX6_firstError : MethodName := ⟨RX6, "firstError", "()I"⟩
abbrev cX6_makes : ByteArray := prog_8_method_45_code
def yX6_makes : MethodName := ⟨RX6, "makes", "(I)Z"⟩
abbrev cX6_run : ByteArray := prog_8_method_46_code
def yX6_run : MethodName := ⟨RX6, "run", "()I"⟩
abbrev cX6_undo : ByteArray := prog_8_method_47_code
def yX6_undo : MethodName := ⟨RX6, "undo", "()I"⟩
abbrev cX6_memberNow : ByteArray := prog_8_method_48_code
def yX6_memberNow : MethodName := ⟨RX6, "memberNow", "(II)I"⟩
abbrev cX6_member : ByteArray := prog_8_method_49_code
def yX6_member : MethodName := ⟨RX6, "member", "(II)I"⟩
abbrev cX6_skillNow : ByteArray := prog_8_method_50_code
def yX6_skillNow : MethodName := ⟨RX6, "skillNow", "(III)I"⟩
abbrev cX6_skill : ByteArray := prog_8_method_51_code
def yX6_skill : MethodName := ⟨RX6, "skill", "(III)I"⟩
abbrev cX6_sumOf : ByteArray := prog_8_method_52_code
def yX6_sumOf : MethodName := ⟨RX6, "sumOf", "(I)I"⟩
abbrev cX6_sumOfBalances : ByteArray := prog_8_method_53_code
def yX6_sumOfBalances : MethodName := ⟨RX6, "sumOfBalances", "(Z)I"⟩
abbrev cX6_counted : ByteArray := prog_8_method_54_code
def yX6_counted : MethodName := ⟨RX6, "counted", "(I)I"⟩
abbrev cX6_count : ByteArray := prog_8_method_55_code
def yX6_count : MethodName := ⟨RX6, "count", "(I)I"⟩
abbrev cX6_setting : ByteArray := prog_8_method_56_code
def yX6_setting : MethodName := ⟨RX6, "setting", "(I)I"⟩
abbrev cX6_worth : ByteArray := prog_8_method_57_code
def yX6_worth : MethodName := ⟨RX6, "worth", "(III)I"⟩
abbrev cX6_longestNow : ByteArray := prog_8_method_58_code
def yX6_longestNow : MethodName := ⟨RX6, "longestNow", "(III)I"⟩
abbrev cX6_longest : ByteArray := prog_8_method_59_code
def yX6_longest : MethodName := ⟨RX6, "longest", "(III)I"⟩
abbrev cX6_cheapestNow : ByteArray := prog_8_method_60_code
def yX6_cheapestNow : MethodName := ⟨RX6, "cheapestNow", "(III)I"⟩
abbrev cX6_cheapest : ByteArray := prog_8_method_61_code
def yX6_cheapest : MethodName := ⟨RX6, "cheapest", "(III)I"⟩
abbrev cX6_decaysThen : ByteArray := prog_8_method_62_code
def yX6_decaysThen : MethodName := ⟨RX6, "decaysThen", "(II)I"⟩
abbrev cX6_decayIn : ByteArray := prog_8_method_63_code
def yX6_decayIn : MethodName := ⟨RX6, "decayIn", "(II)I"⟩
abbrev cX6_needed : ByteArray := prog_8_method_64_code
def yX6_needed : MethodName := ⟨RX6, "needed", "()I"⟩
abbrev cX6_votesNeeded : ByteArray := prog_8_method_65_code
def yX6_votesNeeded : MethodName := ⟨RX6, "votesNeeded", "()I"⟩
abbrev cX6_ripestNow : ByteArray := prog_8_method_66_code
def yX6_ripestNow : MethodName := ⟨RX6, "ripestNow", "(I)I"⟩
abbrev cX6_ripest : ByteArray := prog_8_method_67_code
def yX6_ripest : MethodName := ⟨RX6, "ripest", "(I)I"⟩
abbrev cX6_meanWorth : ByteArray := prog_8_method_68_code
def yX6_meanWorth : MethodName := ⟨RX6, "meanWorth", "()D"⟩
abbrev cX6_minuteWorth : ByteArray := prog_8_method_69_code
def yX6_minuteWorth : MethodName := ⟨RX6, "minuteWorth", "()D"⟩
abbrev cX6_mix : ByteArray := prog_8_method_70_code
def yX6_mix : MethodName := ⟨RX6, "mix", "(J)V"⟩
abbrev cX6_mixMember : ByteArray := prog_8_method_71_code
def yX6_mixMember : MethodName := ⟨RX6, "mixMember", "(I)V"⟩
abbrev cX6_digest : ByteArray := prog_8_method_72_code
def yX6_digest : MethodName := ⟨RX6, "digest", "()J"⟩
def RJxe99ae : String := "java/lang/Double"
def TJxe99ae : u_T := fun k => match k with
  | _ => ("", "", "", false)
def tyJxe99ae : Nat → FieldType := fun k => match k with
  | _ => .int
abbrev wsJxe99ae0 : List Cond := u_ws RJxe99ae TJxe99ae 0
theorem nmJxe99ae : ∀ a, a < 0 → ∀ b, b < 0 → a ≠ b → (TJxe99ae a).2.1 ≠ (TJxe99ae b).2.1 := by decide +kernel
theorem tyJxe99ae_ok : ∀ k, k < 0 → parseFieldDescriptor (TJxe99ae k).2.2.1 = some (tyJxe99ae k) := by decide +kernel
abbrev cJxe99ae_isNaN_b9ae7 : ByteArray := prog_9_method_6_code
def yJxe99ae_isNaN_b9ae7 : MethodName := ⟨RJxe99ae, "isNaN", "(D)Z"⟩
abbrev cJxe99ae_doubleToLongBits_ccdee : ByteArray := prog_9_method_23_code
def yJxe99ae_doubleToLongBits_ccdee : MethodName := ⟨RJxe99ae, "doubleToLongBits", "(D)J"⟩
def RJ9 : String := "java/lang/Math"
def TJ9 : u_T := fun k => match k with
  | _ => ("", "", "", false)
def tyJ9 : Nat → FieldType := fun k => match k with
  | _ => .int
abbrev wsJ90 : List Cond := u_ws RJ9 TJ9 0
theorem nmJ9 : ∀ a, a < 0 → ∀ b, b < 0 → a ≠ b → (TJ9 a).2.1 ≠ (TJ9 b).2.1 := by decide +kernel
theorem tyJ9_ok : ∀ k, k < 0 → parseFieldDescriptor (TJ9 k).2.2.1 = some (tyJ9 k) := by decide +kernel
abbrev cJ9_max_7cf53 : ByteArray := prog_14_method_65_code
def yJ9_max_7cf53 : MethodName := ⟨RJ9, "max", "(II)I"⟩
abbrev cJ9_min_7cf53 : ByteArray := prog_14_method_69_code
def yJ9_min_7cf53 : MethodName := ⟨RJ9, "min", "(II)I"⟩
def RJ0 : String := "java/lang/String"
def TJ0 : u_T := fun k => match k with
  | _ => ("", "", "", false)
def tyJ0 : Nat → FieldType := fun k => match k with
  | _ => .int
abbrev wsJ00 : List Cond := u_ws RJ0 TJ0 0
theorem nmJ0 : ∀ a, a < 0 → ∀ b, b < 0 → a ≠ b → (TJ0 a).2.1 ≠ (TJ0 b).2.1 := by decide +kernel
theorem tyJ0_ok : ∀ k, k < 0 → parseFieldDescriptor (TJ0 k).2.2.1 = some (tyJ0 k) := by decide +kernel
def RL : String := "RipeHoursLaw"
abbrev cL_join : ByteArray := method_3_code
def yL_join : MethodName := ⟨RL, "join", "(LRipeHours;[J)I"⟩
abbrev cL_leave : ByteArray := method_4_code
def yL_leave : MethodName := ⟨RL, "leave", "(LRipeHours;I[J)I"⟩
abbrev cL_give : ByteArray := method_5_code
def yL_give : MethodName := ⟨RL, "give", "(LRipeHours;IIII[J)I"⟩
abbrev cL_donate : ByteArray := method_6_code
def yL_donate : MethodName := ⟨RL, "donate", "(LRipeHours;II[J)I"⟩
abbrev cL_pass : ByteArray := method_7_code
def yL_pass : MethodName := ⟨RL, "pass", "(LRipeHours;I[J)I"⟩
abbrev cL_set : ByteArray := method_8_code
def yL_set : MethodName := ⟨RL, "set", "(LRipeHours;II[J)I"⟩
abbrev cL_move : ByteArray := method_9_code
def yL_move : MethodName := ⟨RL, "move", "(LRipeHours;II[J)I"⟩
abbrev cL_vote : ByteArray := method_10_code
def yL_vote : MethodName := ⟨RL, "vote", "(LRipeHours;IZ[J)I"⟩
abbrev cL_takeBack : ByteArray := method_11_code
def yL_takeBack : MethodName := ⟨RL, "takeBack", "(LRipeHours;[J)I"⟩
abbrev cL_append : ByteArray := method_12_code
def yL_append : MethodName := ⟨RL, "append", "(LRipeHours;I[J)I"⟩
abbrev cL_run : ByteArray := method_13_code
def yL_run : MethodName := ⟨RL, "run", "(LRipeHours;[J)I"⟩
abbrev cL_undo : ByteArray := method_14_code
def yL_undo : MethodName := ⟨RL, "undo", "(LRipeHours;[J)I"⟩
abbrev cL_member : ByteArray := method_15_code
def yL_member : MethodName := ⟨RL, "member", "(LRipeHours;II[J)I"⟩
abbrev cL_skill : ByteArray := method_16_code
def yL_skill : MethodName := ⟨RL, "skill", "(LRipeHours;III[J)I"⟩
abbrev cL_count : ByteArray := method_17_code
def yL_count : MethodName := ⟨RL, "count", "(LRipeHours;I[J)I"⟩
abbrev cL_setting : ByteArray := method_18_code
def yL_setting : MethodName := ⟨RL, "setting", "(LRipeHours;I[J)I"⟩
abbrev cL_worth : ByteArray := method_19_code
def yL_worth : MethodName := ⟨RL, "worth", "(LRipeHours;III[J)I"⟩
abbrev cL_longest : ByteArray := method_20_code
def yL_longest : MethodName := ⟨RL, "longest", "(LRipeHours;III[J)I"⟩
abbrev cL_cheapest : ByteArray := method_21_code
def yL_cheapest : MethodName := ⟨RL, "cheapest", "(LRipeHours;III[J)I"⟩
abbrev cL_decayIn : ByteArray := method_22_code
def yL_decayIn : MethodName := ⟨RL, "decayIn", "(LRipeHours;II[J)I"⟩
abbrev cL_ripest : ByteArray := method_23_code
def yL_ripest : MethodName := ⟨RL, "ripest", "(LRipeHours;I[J)I"⟩
abbrev cL_law : ByteArray := code
def yL_law : MethodName := ⟨RL, "law", "([I)Z"⟩
abbrev vwCl : List vw_C := [(RX0, TX0, 9), (RX1, TX1, 5), (RX2, TX2, 3), (RX3, TX3, 3), (RX4, TX4, 13), (RX5, TX5, 3), (RX6, TX6, 12)]
end
section
/-- the words that every method of this claim rests on: one list for all -/
def TT : List Cond := lw_tbl.filter goodWord
theorem tt_in {w : Cond} (h : w ∈ TT) : w ∈ lw_tbl := (List.mem_filter.mp h).1
theorem tt_good {w : Cond} (h : w ∈ TT) : goodWord w = true := (List.mem_filter.mp h).2
theorem tt_p {w : Cond} (h : w ∈ k2_sels lw_privs) (hg : goodWord w = true) : w ∈ TT := List.mem_filter.mpr ⟨List.mem_append_left _ h, hg⟩
theorem tt_1 {w : Cond} (h : w ∈ tables_1_1) (hg : goodWord w = true) : w ∈ TT := List.mem_filter.mpr ⟨List.mem_append_right _ (show w ∈ tables_1 from List.mem_append_left _ h), hg⟩
theorem tt_2 {w : Cond} (h : w ∈ tables_1_2) (hg : goodWord w = true) : w ∈ TT := List.mem_filter.mpr ⟨List.mem_append_right _ (show w ∈ tables_1 from List.mem_append_right _ (List.mem_append_left _ h)), hg⟩
theorem tt_3 {w : Cond} (h : w ∈ tables_1_3) (hg : goodWord w = true) : w ∈ TT := List.mem_filter.mpr ⟨List.mem_append_right _ (show w ∈ tables_1 from List.mem_append_right _ (List.mem_append_right _ (List.mem_append_left _ h))), hg⟩
theorem tt_4 {w : Cond} (h : w ∈ tables_1_4) (hg : goodWord w = true) : w ∈ TT := List.mem_filter.mpr ⟨List.mem_append_right _ (show w ∈ tables_1 from List.mem_append_right _ (List.mem_append_right _ (List.mem_append_right _ (List.mem_append_left _ h)))), hg⟩
theorem tt_5 {w : Cond} (h : w ∈ tables_1_5) (hg : goodWord w = true) : w ∈ TT := List.mem_filter.mpr ⟨List.mem_append_right _ (show w ∈ tables_1 from List.mem_append_right _ (List.mem_append_right _ (List.mem_append_right _ (List.mem_append_right _ (h))))), hg⟩
theorem qn_L : Cond.initialized RL ∈ TT := tt_1 (List.mem_of_getElem? (i := 0) rfl) rfl
theorem qn_X5 : Cond.initialized RX5 ∈ TT := tt_1 (List.mem_of_getElem? (i := 1) rfl) rfl
theorem qn_X0 : Cond.initialized RX0 ∈ TT := tt_1 (List.mem_of_getElem? (i := 2) rfl) rfl
theorem qn_X4 : Cond.initialized RX4 ∈ TT := tt_1 (List.mem_of_getElem? (i := 3) rfl) rfl
theorem qn_X3 : Cond.initialized RX3 ∈ TT := tt_1 (List.mem_of_getElem? (i := 4) rfl) rfl
theorem qn_X2 : Cond.initialized RX2 ∈ TT := tt_1 (List.mem_of_getElem? (i := 5) rfl) rfl
theorem qn_X1 : Cond.initialized RX1 ∈ TT := tt_1 (List.mem_of_getElem? (i := 6) rfl) rfl
theorem qn_X6 : Cond.initialized RX6 ∈ TT := tt_1 (List.mem_of_getElem? (i := 7) rfl) rfl
theorem qn_Throwable : Cond.initialized "java/lang/Throwable" ∈ TT := tt_1 (List.mem_of_getElem? (i := 8) rfl) rfl
theorem qn_Exception : Cond.initialized "java/lang/Exception" ∈ TT := tt_1 (List.mem_of_getElem? (i := 9) rfl) rfl
theorem qn_RuntimeException : Cond.initialized "java/lang/RuntimeException" ∈ TT := tt_1 (List.mem_of_getElem? (i := 10) rfl) rfl
theorem qn_IllegalStateException : Cond.initialized "java/lang/IllegalStateException" ∈ TT := tt_1 (List.mem_of_getElem? (i := 11) rfl) rfl
theorem qn_J9 : Cond.initialized "java/lang/Math" ∈ TT := tt_1 (List.mem_of_getElem? (i := 12) rfl) rfl
theorem qn_IndexOutOfBoundsException : Cond.initialized "java/lang/IndexOutOfBoundsException" ∈ TT := tt_1 (List.mem_of_getElem? (i := 13) rfl) rfl
theorem qn_IllegalArgumentException : Cond.initialized "java/lang/IllegalArgumentException" ∈ TT := tt_1 (List.mem_of_getElem? (i := 14) rfl) rfl
theorem qn_Jxe99ae : Cond.initialized "java/lang/Double" ∈ TT := tt_1 (List.mem_of_getElem? (i := 15) rfl) rfl
theorem qk_L_8 : Cond.classLink RL 8 RX5 ∈ TT := tt_1 (List.mem_of_getElem? (i := 16) rfl) rfl
theorem qa_X5 : Cond.instantiable RX5 3 ∈ TT := tt_1 (List.mem_of_getElem? (i := 17) rfl) rfl
theorem qm_L_84 : Cond.methodLink RL 84 yX5_init ∈ TT := tt_1 (List.mem_of_getElem? (i := 18) rfl) rfl
theorem qi_X5_init : Cond.instanceMethod yX5_init ∈ TT := tt_1 (List.mem_of_getElem? (i := 19) rfl) rfl
theorem qc_X5_init : Cond.code yX5_init cX5_init 1 none ∈ TT := tt_1 (List.mem_of_getElem? (i := 20) rfl) rfl
theorem qm_X5_1 : Cond.methodLink RX5 1 objectInit ∈ TT := tt_1 (List.mem_of_getElem? (i := 21) rfl) rfl
theorem qi_objinit : Cond.instanceMethod objectInit ∈ TT := tt_1 (List.mem_of_getElem? (i := 22) rfl) rfl
theorem qc_objinit : Cond.code objectInit ⟨#[0xb1]⟩ 1 none ∈ TT := tt_1 (List.mem_of_getElem? (i := 23) rfl) rfl
theorem qk_X5_7 : Cond.classLink RX5 7 RX0 ∈ TT := tt_1 (List.mem_of_getElem? (i := 24) rfl) rfl
theorem qa_X0 : Cond.instantiable RX0 9 ∈ TT := tt_1 (List.mem_of_getElem? (i := 25) rfl) rfl
theorem qm_X5_9 : Cond.methodLink RX5 9 yX0_init ∈ TT := tt_1 (List.mem_of_getElem? (i := 26) rfl) rfl
theorem qi_X0_init : Cond.instanceMethod yX0_init ∈ TT := tt_1 (List.mem_of_getElem? (i := 27) rfl) rfl
theorem qc_X0_init : Cond.code yX0_init cX0_init 2 none ∈ TT := tt_1 (List.mem_of_getElem? (i := 28) rfl) rfl
theorem qm_X0_3 : Cond.methodLink RX0 3 objectInit ∈ TT := tt_1 (List.mem_of_getElem? (i := 29) rfl) rfl
theorem qk_X0_9 : Cond.classLink RX0 9 RX4 ∈ TT := tt_1 (List.mem_of_getElem? (i := 30) rfl) rfl
theorem qa_X4 : Cond.instantiable RX4 13 ∈ TT := tt_1 (List.mem_of_getElem? (i := 32) rfl) rfl
theorem qm_X0_17 : Cond.methodLink RX0 17 yX4_init ∈ TT := tt_1 (List.mem_of_getElem? (i := 33) rfl) rfl
theorem qi_X4_init : Cond.instanceMethod yX4_init ∈ TT := tt_1 (List.mem_of_getElem? (i := 34) rfl) rfl
theorem qc_X4_init : Cond.code yX4_init cX4_init 1 none ∈ TT := tt_1 (List.mem_of_getElem? (i := 35) rfl) rfl
theorem qm_X4_3 : Cond.methodLink RX4 3 objectInit ∈ TT := tt_1 (List.mem_of_getElem? (i := 36) rfl) rfl
theorem qf_X4_9 : Cond.fieldLink RX4 9 "RipeHours$Member" "practice" "[I" ∈ TT := tt_1 (List.mem_of_getElem? (i := 37) rfl) rfl
theorem qf_X0_131 : Cond.fieldLink RX0 131 "RipeHours$Member" "practice" "[I" ∈ TT := tt_1 (List.mem_of_getElem? (i := 38) rfl) rfl
theorem qf_X5_212 : Cond.fieldLink RX5 212 "RipeHours$Member" "practice" "[I" ∈ TT := tt_1 (List.mem_of_getElem? (i := 39) rfl) rfl
theorem qf_X4_15 : Cond.fieldLink RX4 15 "RipeHours$Member" "isThere" "Z" ∈ TT := tt_1 (List.mem_of_getElem? (i := 40) rfl) rfl
theorem qf_X5_62 : Cond.fieldLink RX5 62 "RipeHours$Member" "isThere" "Z" ∈ TT := tt_1 (List.mem_of_getElem? (i := 41) rfl) rfl
theorem qf_X0_51 : Cond.fieldLink RX0 51 "RipeHours$Member" "isThere" "Z" ∈ TT := tt_1 (List.mem_of_getElem? (i := 42) rfl) rfl
theorem qf_X4_19 : Cond.fieldLink RX4 19 "RipeHours$Member" "isBusy" "Z" ∈ TT := tt_1 (List.mem_of_getElem? (i := 43) rfl) rfl
theorem qf_X0_100 : Cond.fieldLink RX0 100 "RipeHours$Member" "isBusy" "Z" ∈ TT := tt_1 (List.mem_of_getElem? (i := 44) rfl) rfl
theorem qf_X4_22 : Cond.fieldLink RX4 22 "RipeHours$Member" "balance" "I" ∈ TT := tt_1 (List.mem_of_getElem? (i := 45) rfl) rfl
theorem qf_X5_68 : Cond.fieldLink RX5 68 "RipeHours$Member" "balance" "I" ∈ TT := tt_1 (List.mem_of_getElem? (i := 46) rfl) rfl
theorem qf_X0_55 : Cond.fieldLink RX0 55 "RipeHours$Member" "balance" "I" ∈ TT := tt_1 (List.mem_of_getElem? (i := 47) rfl) rfl
theorem qf_X4_26 : Cond.fieldLink RX4 26 "RipeHours$Member" "loan" "I" ∈ TT := tt_1 (List.mem_of_getElem? (i := 48) rfl) rfl
theorem qf_X0_58 : Cond.fieldLink RX0 58 "RipeHours$Member" "loan" "I" ∈ TT := tt_1 (List.mem_of_getElem? (i := 49) rfl) rfl
theorem qf_X4_29 : Cond.fieldLink RX4 29 "RipeHours$Member" "idleWeeks" "I" ∈ TT := tt_1 (List.mem_of_getElem? (i := 50) rfl) rfl
theorem qf_X0_137 : Cond.fieldLink RX0 137 "RipeHours$Member" "idleWeeks" "I" ∈ TT := tt_1 (List.mem_of_getElem? (i := 51) rfl) rfl
theorem qf_X4_32 : Cond.fieldLink RX4 32 "RipeHours$Member" "minutesGiven" "I" ∈ TT := tt_1 (List.mem_of_getElem? (i := 52) rfl) rfl
theorem qf_X0_106 : Cond.fieldLink RX0 106 "RipeHours$Member" "minutesGiven" "I" ∈ TT := tt_1 (List.mem_of_getElem? (i := 53) rfl) rfl
theorem qf_X4_35 : Cond.fieldLink RX4 35 "RipeHours$Member" "minutesTaken" "I" ∈ TT := tt_1 (List.mem_of_getElem? (i := 54) rfl) rfl
theorem qf_X0_97 : Cond.fieldLink RX0 97 "RipeHours$Member" "minutesTaken" "I" ∈ TT := tt_1 (List.mem_of_getElem? (i := 55) rfl) rfl
theorem qf_X4_38 : Cond.fieldLink RX4 38 "RipeHours$Member" "earned" "I" ∈ TT := tt_1 (List.mem_of_getElem? (i := 56) rfl) rfl
theorem qf_X0_103 : Cond.fieldLink RX0 103 "RipeHours$Member" "earned" "I" ∈ TT := tt_1 (List.mem_of_getElem? (i := 57) rfl) rfl
theorem qf_X4_41 : Cond.fieldLink RX4 41 "RipeHours$Member" "paid" "I" ∈ TT := tt_1 (List.mem_of_getElem? (i := 58) rfl) rfl
theorem qf_X0_94 : Cond.fieldLink RX0 94 "RipeHours$Member" "paid" "I" ∈ TT := tt_1 (List.mem_of_getElem? (i := 59) rfl) rfl
theorem qf_X4_44 : Cond.fieldLink RX4 44 "RipeHours$Member" "decayed" "I" ∈ TT := tt_1 (List.mem_of_getElem? (i := 60) rfl) rfl
theorem qf_X0_143 : Cond.fieldLink RX0 143 "RipeHours$Member" "decayed" "I" ∈ TT := tt_1 (List.mem_of_getElem? (i := 61) rfl) rfl
theorem qf_X4_47 : Cond.fieldLink RX4 47 "RipeHours$Member" "forgiven" "I" ∈ TT := tt_1 (List.mem_of_getElem? (i := 62) rfl) rfl
theorem qf_X0_162 : Cond.fieldLink RX0 162 "RipeHours$Member" "forgiven" "I" ∈ TT := tt_1 (List.mem_of_getElem? (i := 63) rfl) rfl
theorem qf_X4_50 : Cond.fieldLink RX4 50 "RipeHours$Member" "ballot" "I" ∈ TT := tt_1 (List.mem_of_getElem? (i := 64) rfl) rfl
theorem qf_X0_65 : Cond.fieldLink RX0 65 "RipeHours$Member" "ballot" "I" ∈ TT := tt_1 (List.mem_of_getElem? (i := 65) rfl) rfl
theorem qf_X5_155 : Cond.fieldLink RX5 155 "RipeHours$Member" "ballot" "I" ∈ TT := tt_1 (List.mem_of_getElem? (i := 66) rfl) rfl
theorem qy_X4_practice : Cond.laysFinal RX4 "RipeHours$Member" "practice" "[I" ∈ TT := tt_1 (List.mem_of_getElem? (i := 67) rfl) rfl
theorem qy_X4_isThere : Cond.lays RX4 "RipeHours$Member" "isThere" "Z" ∈ TT := tt_1 (List.mem_of_getElem? (i := 69) rfl) rfl
theorem qy_X4_isBusy : Cond.lays RX4 "RipeHours$Member" "isBusy" "Z" ∈ TT := tt_1 (List.mem_of_getElem? (i := 71) rfl) rfl
theorem qy_X4_balance : Cond.lays RX4 "RipeHours$Member" "balance" "I" ∈ TT := tt_1 (List.mem_of_getElem? (i := 73) rfl) rfl
theorem qy_X4_loan : Cond.lays RX4 "RipeHours$Member" "loan" "I" ∈ TT := tt_1 (List.mem_of_getElem? (i := 75) rfl) rfl
theorem qy_X4_idleWeeks : Cond.lays RX4 "RipeHours$Member" "idleWeeks" "I" ∈ TT := tt_1 (List.mem_of_getElem? (i := 77) rfl) rfl
theorem qy_X4_minutesGiven : Cond.lays RX4 "RipeHours$Member" "minutesGiven" "I" ∈ TT := tt_1 (List.mem_of_getElem? (i := 79) rfl) rfl
theorem qy_X4_minutesTaken : Cond.lays RX4 "RipeHours$Member" "minutesTaken" "I" ∈ TT := tt_1 (List.mem_of_getElem? (i := 81) rfl) rfl
theorem qy_X4_earned : Cond.lays RX4 "RipeHours$Member" "earned" "I" ∈ TT := tt_1 (List.mem_of_getElem? (i := 83) rfl) rfl
theorem qy_X4_paid : Cond.lays RX4 "RipeHours$Member" "paid" "I" ∈ TT := tt_1 (List.mem_of_getElem? (i := 85) rfl) rfl
theorem qy_X4_decayed : Cond.lays RX4 "RipeHours$Member" "decayed" "I" ∈ TT := tt_1 (List.mem_of_getElem? (i := 87) rfl) rfl
theorem qy_X4_forgiven : Cond.lays RX4 "RipeHours$Member" "forgiven" "I" ∈ TT := tt_1 (List.mem_of_getElem? (i := 89) rfl) rfl
theorem qy_X4_ballot : Cond.lays RX4 "RipeHours$Member" "ballot" "I" ∈ TT := tt_1 (List.mem_of_getElem? (i := 91) rfl) rfl
theorem qr_int : Cond.arrayClass .int ∈ TT := tt_1 (List.mem_of_getElem? (i := 94) rfl) rfl
theorem qf_X0_11 : Cond.fieldLink RX0 11 "RipeHours$Bank" "members" "[LRipeHours$Member;" ∈ TT := tt_1 (List.mem_of_getElem? (i := 97) rfl) rfl
theorem qf_X5_58 : Cond.fieldLink RX5 58 "RipeHours$Bank" "members" "[LRipeHours$Member;" ∈ TT := tt_1 (List.mem_of_getElem? (i := 98) rfl) rfl
theorem qf_X0_18 : Cond.fieldLink RX0 18 "RipeHours$Bank" "settings" "[I" ∈ TT := tt_1 (List.mem_of_getElem? (i := 99) rfl) rfl
theorem qf_X5_133 : Cond.fieldLink RX5 133 "RipeHours$Bank" "settings" "[I" ∈ TT := tt_1 (List.mem_of_getElem? (i := 100) rfl) rfl
theorem qf_X5_30 : Cond.fieldLink RX5 30 "RipeHours$Bank" "came" "I" ∈ TT := tt_1 (List.mem_of_getElem? (i := 101) rfl) rfl
theorem qf_X0_33 : Cond.fieldLink RX0 33 "RipeHours$Bank" "came" "I" ∈ TT := tt_1 (List.mem_of_getElem? (i := 102) rfl) rfl
theorem qf_X0_36 : Cond.fieldLink RX0 36 "RipeHours$Bank" "common" "I" ∈ TT := tt_1 (List.mem_of_getElem? (i := 103) rfl) rfl
theorem qf_X5_273 : Cond.fieldLink RX5 273 "RipeHours$Bank" "common" "I" ∈ TT := tt_1 (List.mem_of_getElem? (i := 104) rfl) rfl
theorem qf_X0_39 : Cond.fieldLink RX0 39 "RipeHours$Bank" "forgiven" "I" ∈ TT := tt_1 (List.mem_of_getElem? (i := 105) rfl) rfl
theorem qf_X5_276 : Cond.fieldLink RX5 276 "RipeHours$Bank" "forgiven" "I" ∈ TT := tt_1 (List.mem_of_getElem? (i := 106) rfl) rfl
theorem qf_X0_42 : Cond.fieldLink RX0 42 "RipeHours$Bank" "week" "I" ∈ TT := tt_1 (List.mem_of_getElem? (i := 107) rfl) rfl
theorem qf_X5_114 : Cond.fieldLink RX5 114 "RipeHours$Bank" "week" "I" ∈ TT := tt_1 (List.mem_of_getElem? (i := 108) rfl) rfl
theorem qf_X0_45 : Cond.fieldLink RX0 45 "RipeHours$Bank" "deals" "I" ∈ TT := tt_1 (List.mem_of_getElem? (i := 109) rfl) rfl
theorem qf_X5_279 : Cond.fieldLink RX5 279 "RipeHours$Bank" "deals" "I" ∈ TT := tt_1 (List.mem_of_getElem? (i := 110) rfl) rfl
theorem qf_X0_25 : Cond.fieldLink RX0 25 "RipeHours$Bank" "debtor" "I" ∈ TT := tt_1 (List.mem_of_getElem? (i := 111) rfl) rfl
theorem qf_X5_291 : Cond.fieldLink RX5 291 "RipeHours$Bank" "debtor" "I" ∈ TT := tt_1 (List.mem_of_getElem? (i := 112) rfl) rfl
theorem qf_X0_48 : Cond.fieldLink RX0 48 "RipeHours$Bank" "motionMinutes" "I" ∈ TT := tt_1 (List.mem_of_getElem? (i := 113) rfl) rfl
theorem qf_X5_294 : Cond.fieldLink RX5 294 "RipeHours$Bank" "motionMinutes" "I" ∈ TT := tt_1 (List.mem_of_getElem? (i := 114) rfl) rfl
theorem qy_X0_members : Cond.laysFinal RX0 "RipeHours$Bank" "members" "[LRipeHours$Member;" ∈ TT := tt_1 (List.mem_of_getElem? (i := 115) rfl) rfl
theorem qy_X0_settings : Cond.laysFinal RX0 "RipeHours$Bank" "settings" "[I" ∈ TT := tt_1 (List.mem_of_getElem? (i := 117) rfl) rfl
theorem qy_X0_came : Cond.lays RX0 "RipeHours$Bank" "came" "I" ∈ TT := tt_1 (List.mem_of_getElem? (i := 119) rfl) rfl
theorem qy_X0_common : Cond.lays RX0 "RipeHours$Bank" "common" "I" ∈ TT := tt_1 (List.mem_of_getElem? (i := 121) rfl) rfl
theorem qy_X0_forgiven : Cond.lays RX0 "RipeHours$Bank" "forgiven" "I" ∈ TT := tt_1 (List.mem_of_getElem? (i := 123) rfl) rfl
theorem qy_X0_week : Cond.lays RX0 "RipeHours$Bank" "week" "I" ∈ TT := tt_1 (List.mem_of_getElem? (i := 125) rfl) rfl
theorem qy_X0_deals : Cond.lays RX0 "RipeHours$Bank" "deals" "I" ∈ TT := tt_1 (List.mem_of_getElem? (i := 127) rfl) rfl
theorem qy_X0_debtor : Cond.lays RX0 "RipeHours$Bank" "debtor" "I" ∈ TT := tt_1 (List.mem_of_getElem? (i := 129) rfl) rfl
theorem qy_X0_motionMinutes : Cond.lays RX0 "RipeHours$Bank" "motionMinutes" "I" ∈ TT := tt_1 (List.mem_of_getElem? (i := 131) rfl) rfl
theorem qk_X5_16 : Cond.classLink RX5 16 RX3 ∈ TT := tt_1 (List.mem_of_getElem? (i := 134) rfl) rfl
theorem qa_X3 : Cond.instantiable RX3 3 ∈ TT := tt_1 (List.mem_of_getElem? (i := 135) rfl) rfl
theorem qm_X5_18 : Cond.methodLink RX5 18 yX3_init ∈ TT := tt_1 (List.mem_of_getElem? (i := 136) rfl) rfl
theorem qi_X3_init : Cond.instanceMethod yX3_init ∈ TT := tt_1 (List.mem_of_getElem? (i := 137) rfl) rfl
theorem qc_X3_init : Cond.code yX3_init cX3_init 2 none ∈ TT := tt_1 (List.mem_of_getElem? (i := 138) rfl) rfl
theorem qm_X3_3 : Cond.methodLink RX3 3 objectInit ∈ TT := tt_1 (List.mem_of_getElem? (i := 139) rfl) rfl
theorem qk_X3_9 : Cond.classLink RX3 9 RX0 ∈ TT := tt_1 (List.mem_of_getElem? (i := 140) rfl) rfl
theorem qm_X3_17 : Cond.methodLink RX3 17 yX0_init ∈ TT := tt_1 (List.mem_of_getElem? (i := 142) rfl) rfl
theorem qf_X3_11 : Cond.fieldLink RX3 11 "RipeHours$History" "states" "[LRipeHours$Bank;" ∈ TT := tt_1 (List.mem_of_getElem? (i := 143) rfl) rfl
theorem qf_X3_18 : Cond.fieldLink RX3 18 "RipeHours$History" "next" "I" ∈ TT := tt_1 (List.mem_of_getElem? (i := 144) rfl) rfl
theorem qf_X3_26 : Cond.fieldLink RX3 26 "RipeHours$History" "kept" "I" ∈ TT := tt_1 (List.mem_of_getElem? (i := 145) rfl) rfl
theorem qf_X5_196 : Cond.fieldLink RX5 196 "RipeHours$History" "kept" "I" ∈ TT := tt_1 (List.mem_of_getElem? (i := 146) rfl) rfl
theorem qy_X3_states : Cond.laysFinal RX3 "RipeHours$History" "states" "[LRipeHours$Bank;" ∈ TT := tt_1 (List.mem_of_getElem? (i := 147) rfl) rfl
theorem qy_X3_next : Cond.lays RX3 "RipeHours$History" "next" "I" ∈ TT := tt_1 (List.mem_of_getElem? (i := 149) rfl) rfl
theorem qy_X3_kept : Cond.lays RX3 "RipeHours$History" "kept" "I" ∈ TT := tt_1 (List.mem_of_getElem? (i := 151) rfl) rfl
theorem qk_X5_23 : Cond.classLink RX5 23 RX2 ∈ TT := tt_1 (List.mem_of_getElem? (i := 154) rfl) rfl
theorem qa_X2 : Cond.instantiable RX2 3 ∈ TT := tt_1 (List.mem_of_getElem? (i := 155) rfl) rfl
theorem qm_X5_25 : Cond.methodLink RX5 25 yX2_init ∈ TT := tt_1 (List.mem_of_getElem? (i := 156) rfl) rfl
theorem qi_X2_init : Cond.instanceMethod yX2_init ∈ TT := tt_1 (List.mem_of_getElem? (i := 157) rfl) rfl
theorem qc_X2_init : Cond.code yX2_init cX2_init 1 none ∈ TT := tt_1 (List.mem_of_getElem? (i := 158) rfl) rfl
theorem qm_X2_3 : Cond.methodLink RX2 3 objectInit ∈ TT := tt_1 (List.mem_of_getElem? (i := 159) rfl) rfl
theorem qk_X2_15 : Cond.classLink RX2 15 RX1 ∈ TT := tt_1 (List.mem_of_getElem? (i := 160) rfl) rfl
theorem qa_X1 : Cond.instantiable RX1 5 ∈ TT := tt_1 (List.mem_of_getElem? (i := 161) rfl) rfl
theorem qm_X2_17 : Cond.methodLink RX2 17 yX1_init ∈ TT := tt_1 (List.mem_of_getElem? (i := 162) rfl) rfl
theorem qi_X1_init : Cond.instanceMethod yX1_init ∈ TT := tt_1 (List.mem_of_getElem? (i := 163) rfl) rfl
theorem qc_X1_init : Cond.code yX1_init cX1_init 1 none ∈ TT := tt_1 (List.mem_of_getElem? (i := 164) rfl) rfl
theorem qm_X1_3 : Cond.methodLink RX1 3 objectInit ∈ TT := tt_1 (List.mem_of_getElem? (i := 165) rfl) rfl
theorem qf_X1_11 : Cond.fieldLink RX1 11 "RipeHours$DealReader" "place" "I" ∈ TT := tt_1 (List.mem_of_getElem? (i := 166) rfl) rfl
theorem qf_X1_43 : Cond.fieldLink RX1 43 "RipeHours$DealReader" "giver" "I" ∈ TT := tt_1 (List.mem_of_getElem? (i := 167) rfl) rfl
theorem qf_X1_46 : Cond.fieldLink RX1 46 "RipeHours$DealReader" "taker" "I" ∈ TT := tt_1 (List.mem_of_getElem? (i := 168) rfl) rfl
theorem qf_X1_52 : Cond.fieldLink RX1 52 "RipeHours$DealReader" "skill" "I" ∈ TT := tt_1 (List.mem_of_getElem? (i := 169) rfl) rfl
theorem qf_X1_15 : Cond.fieldLink RX1 15 "RipeHours$DealReader" "minutes" "I" ∈ TT := tt_1 (List.mem_of_getElem? (i := 170) rfl) rfl
theorem qy_X1_place : Cond.lays RX1 "RipeHours$DealReader" "place" "I" ∈ TT := tt_1 (List.mem_of_getElem? (i := 171) rfl) rfl
theorem qy_X1_giver : Cond.lays RX1 "RipeHours$DealReader" "giver" "I" ∈ TT := tt_1 (List.mem_of_getElem? (i := 173) rfl) rfl
theorem qy_X1_taker : Cond.lays RX1 "RipeHours$DealReader" "taker" "I" ∈ TT := tt_1 (List.mem_of_getElem? (i := 175) rfl) rfl
theorem qy_X1_skill : Cond.lays RX1 "RipeHours$DealReader" "skill" "I" ∈ TT := tt_1 (List.mem_of_getElem? (i := 177) rfl) rfl
theorem qy_X1_minutes : Cond.lays RX1 "RipeHours$DealReader" "minutes" "I" ∈ TT := tt_1 (List.mem_of_getElem? (i := 179) rfl) rfl
theorem qr_char : Cond.arrayClass .char ∈ TT := tt_1 (List.mem_of_getElem? (i := 182) rfl) rfl
theorem qf_X2_9 : Cond.fieldLink RX2 9 "RipeHours$DealText" "signs" "[C" ∈ TT := tt_1 (List.mem_of_getElem? (i := 183) rfl) rfl
theorem qf_X5_266 : Cond.fieldLink RX5 266 "RipeHours$DealText" "signs" "[C" ∈ TT := tt_1 (List.mem_of_getElem? (i := 184) rfl) rfl
theorem qf_X2_18 : Cond.fieldLink RX2 18 "RipeHours$DealText" "reader" "LRipeHours$DealReader;" ∈ TT := tt_1 (List.mem_of_getElem? (i := 185) rfl) rfl
theorem qf_X2_22 : Cond.fieldLink RX2 22 "RipeHours$DealText" "size" "I" ∈ TT := tt_1 (List.mem_of_getElem? (i := 186) rfl) rfl
theorem qf_X5_175 : Cond.fieldLink RX5 175 "RipeHours$DealText" "size" "I" ∈ TT := tt_1 (List.mem_of_getElem? (i := 187) rfl) rfl
theorem qy_X2_signs : Cond.laysFinal RX2 "RipeHours$DealText" "signs" "[C" ∈ TT := tt_1 (List.mem_of_getElem? (i := 188) rfl) rfl
theorem qy_X2_reader : Cond.laysFinal RX2 "RipeHours$DealText" "reader" "LRipeHours$DealReader;" ∈ TT := tt_1 (List.mem_of_getElem? (i := 190) rfl) rfl
theorem qy_X2_size : Cond.lays RX2 "RipeHours$DealText" "size" "I" ∈ TT := tt_1 (List.mem_of_getElem? (i := 192) rfl) rfl
theorem qf_X5_10 : Cond.fieldLink RX5 10 "RipeHours" "bank" "LRipeHours$Bank;" ∈ TT := tt_1 (List.mem_of_getElem? (i := 195) rfl) rfl
theorem qf_X5_19 : Cond.fieldLink RX5 19 "RipeHours" "history" "LRipeHours$History;" ∈ TT := tt_1 (List.mem_of_getElem? (i := 196) rfl) rfl
theorem qf_X5_26 : Cond.fieldLink RX5 26 "RipeHours" "text" "LRipeHours$DealText;" ∈ TT := tt_1 (List.mem_of_getElem? (i := 197) rfl) rfl
theorem qy_X5_bank : Cond.laysFinal RX5 "RipeHours" "bank" "LRipeHours$Bank;" ∈ TT := tt_1 (List.mem_of_getElem? (i := 198) rfl) rfl
theorem qy_X5_history : Cond.laysFinal RX5 "RipeHours" "history" "LRipeHours$History;" ∈ TT := tt_1 (List.mem_of_getElem? (i := 200) rfl) rfl
theorem qy_X5_text : Cond.laysFinal RX5 "RipeHours" "text" "LRipeHours$DealText;" ∈ TT := tt_1 (List.mem_of_getElem? (i := 202) rfl) rfl
theorem qm_L_128 : Cond.methodLink RL 128 yX5_clearBuffer ∈ TT := tt_1 (List.mem_of_getElem? (i := 205) rfl) rfl
theorem qi_X5_clearBuffer : Cond.instanceMethod yX5_clearBuffer ∈ TT := tt_1 (List.mem_of_getElem? (i := 206) rfl) rfl
theorem qs_X5_clearBuffer : Cond.selects RX5 yX5_clearBuffer yX5_clearBuffer ∈ TT := tt_1 (List.mem_of_getElem? (i := 207) rfl) rfl
theorem qc_X5_clearBuffer : Cond.code yX5_clearBuffer cX5_clearBuffer 2 (some .int) ∈ TT := tt_1 (List.mem_of_getElem? (i := 208) rfl) rfl
theorem qm_L_132 : Cond.methodLink RL 132 yX5_firstError ∈ TT := tt_1 (List.mem_of_getElem? (i := 209) rfl) rfl
theorem qi_X5_firstError : Cond.instanceMethod yX5_firstError ∈ TT := tt_1 (List.mem_of_getElem? (i := 210) rfl) rfl
theorem qs_X5_firstError : Cond.selects RX5 yX5_firstError yX5_firstError ∈ TT := tt_1 (List.mem_of_getElem? (i := 211) rfl) rfl
theorem qc_X5_firstError : Cond.code yX5_firstError cX5_firstError 1 (some .int) ∈ TT := tt_1 (List.mem_of_getElem? (i := 212) rfl) rfl
theorem qm_X5_184 : Cond.methodLink RX5 184 yX2_findError ∈ TT := tt_1 (List.mem_of_getElem? (i := 213) rfl) rfl
theorem qi_X2_findError : Cond.instanceMethod yX2_findError ∈ TT := tt_1 (List.mem_of_getElem? (i := 214) rfl) rfl
theorem qs_X2_findError : Cond.selects RX2 yX2_findError yX2_findError ∈ TT := tt_1 (List.mem_of_getElem? (i := 215) rfl) rfl
theorem qc_X2_findError : Cond.code yX2_findError cX2_findError 2 (some .int) ∈ TT := tt_1 (List.mem_of_getElem? (i := 216) rfl) rfl
theorem qm_X2_26 : Cond.methodLink RX2 26 yX1_restart ∈ TT := tt_1 (List.mem_of_getElem? (i := 217) rfl) rfl
theorem qi_X1_restart : Cond.instanceMethod yX1_restart ∈ TT := tt_1 (List.mem_of_getElem? (i := 218) rfl) rfl
theorem qs_X1_restart : Cond.selects RX1 yX1_restart yX1_restart ∈ TT := tt_1 (List.mem_of_getElem? (i := 219) rfl) rfl
theorem qc_X1_restart : Cond.code yX1_restart cX1_restart 1 none ∈ TT := tt_1 (List.mem_of_getElem? (i := 220) rfl) rfl
theorem qm_X2_29 : Cond.methodLink RX2 29 yX1_takes ∈ TT := tt_1 (List.mem_of_getElem? (i := 221) rfl) rfl
theorem qi_X1_takes : Cond.instanceMethod yX1_takes ∈ TT := tt_1 (List.mem_of_getElem? (i := 222) rfl) rfl
theorem qs_X1_takes : Cond.selects RX1 yX1_takes yX1_takes ∈ TT := tt_1 (List.mem_of_getElem? (i := 223) rfl) rfl
theorem qc_X1_takes : Cond.code yX1_takes cX1_takes 2 (some .boolean) ∈ TT := tt_1 (List.mem_of_getElem? (i := 224) rfl) rfl
theorem qm_X1_18 : Cond.methodLink RX1 18 yX1_takesGiver ∈ TT := tt_1 (List.mem_of_getElem? (i := 225) rfl) rfl
theorem qi_X1_takesGiver : Cond.instanceMethod yX1_takesGiver ∈ TT := tt_1 (List.mem_of_getElem? (i := 226) rfl) rfl
theorem qs_X1_takesGiver : Cond.selects RX1 yX1_takesGiver yX1_takesGiver ∈ TT := tt_1 (List.mem_of_getElem? (i := 227) rfl) rfl
theorem qc_X1_takesGiver : Cond.code yX1_takesGiver cX1_takesGiver 2 (some .boolean) ∈ TT := tt_1 (List.mem_of_getElem? (i := 228) rfl) rfl
theorem qt_X5_isWithin : Cond.static yX5_isWithin ∈ TT := tt_1 (List.mem_of_getElem? (i := 230) rfl) rfl
theorem qc_X5_isWithin : Cond.code yX5_isWithin cX5_isWithin 3 (some .boolean) ∈ TT := tt_1 (List.mem_of_getElem? (i := 231) rfl) rfl
theorem qm_X1_22 : Cond.methodLink RX1 22 yX1_takesMark ∈ TT := tt_1 (List.mem_of_getElem? (i := 232) rfl) rfl
theorem qi_X1_takesMark : Cond.instanceMethod yX1_takesMark ∈ TT := tt_1 (List.mem_of_getElem? (i := 233) rfl) rfl
theorem qs_X1_takesMark : Cond.selects RX1 yX1_takesMark yX1_takesMark ∈ TT := tt_1 (List.mem_of_getElem? (i := 234) rfl) rfl
theorem qc_X1_takesMark : Cond.code yX1_takesMark cX1_takesMark 3 (some .boolean) ∈ TT := tt_1 (List.mem_of_getElem? (i := 235) rfl) rfl
theorem qm_X1_26 : Cond.methodLink RX1 26 yX1_takesTaker ∈ TT := tt_1 (List.mem_of_getElem? (i := 236) rfl) rfl
theorem qi_X1_takesTaker : Cond.instanceMethod yX1_takesTaker ∈ TT := tt_1 (List.mem_of_getElem? (i := 237) rfl) rfl
theorem qs_X1_takesTaker : Cond.selects RX1 yX1_takesTaker yX1_takesTaker ∈ TT := tt_1 (List.mem_of_getElem? (i := 238) rfl) rfl
theorem qc_X1_takesTaker : Cond.code yX1_takesTaker cX1_takesTaker 2 (some .boolean) ∈ TT := tt_1 (List.mem_of_getElem? (i := 239) rfl) rfl
theorem qm_X1_29 : Cond.methodLink RX1 29 yX1_takesSkill ∈ TT := tt_2 (List.mem_of_getElem? (i := 0) rfl) rfl
theorem qi_X1_takesSkill : Cond.instanceMethod yX1_takesSkill ∈ TT := tt_2 (List.mem_of_getElem? (i := 1) rfl) rfl
theorem qs_X1_takesSkill : Cond.selects RX1 yX1_takesSkill yX1_takesSkill ∈ TT := tt_2 (List.mem_of_getElem? (i := 2) rfl) rfl
theorem qc_X1_takesSkill : Cond.code yX1_takesSkill cX1_takesSkill 2 (some .boolean) ∈ TT := tt_2 (List.mem_of_getElem? (i := 3) rfl) rfl
theorem qt_X5_isSkill : Cond.static yX5_isSkill ∈ TT := tt_2 (List.mem_of_getElem? (i := 5) rfl) rfl
theorem qc_X5_isSkill : Cond.code yX5_isSkill cX5_isSkill 1 (some .boolean) ∈ TT := tt_2 (List.mem_of_getElem? (i := 6) rfl) rfl
theorem qm_X5_100 : Cond.methodLink RX5 100 yX5_isWithin ∈ TT := tt_2 (List.mem_of_getElem? (i := 7) rfl) rfl
theorem qm_X1_32 : Cond.methodLink RX1 32 yX1_takesEnd ∈ TT := tt_2 (List.mem_of_getElem? (i := 8) rfl) rfl
theorem qi_X1_takesEnd : Cond.instanceMethod yX1_takesEnd ∈ TT := tt_2 (List.mem_of_getElem? (i := 9) rfl) rfl
theorem qs_X1_takesEnd : Cond.selects RX1 yX1_takesEnd yX1_takesEnd ∈ TT := tt_2 (List.mem_of_getElem? (i := 10) rfl) rfl
theorem qc_X1_takesEnd : Cond.code yX1_takesEnd cX1_takesEnd 1 (some .boolean) ∈ TT := tt_2 (List.mem_of_getElem? (i := 11) rfl) rfl
theorem qm_X1_58 : Cond.methodLink RX1 58 yX1_isDealWhole ∈ TT := tt_2 (List.mem_of_getElem? (i := 12) rfl) rfl
theorem qi_X1_isDealWhole : Cond.instanceMethod yX1_isDealWhole ∈ TT := tt_2 (List.mem_of_getElem? (i := 13) rfl) rfl
theorem qs_X1_isDealWhole : Cond.selects RX1 yX1_isDealWhole yX1_isDealWhole ∈ TT := tt_2 (List.mem_of_getElem? (i := 14) rfl) rfl
theorem qc_X1_isDealWhole : Cond.code yX1_isDealWhole cX1_isDealWhole 1 (some .boolean) ∈ TT := tt_2 (List.mem_of_getElem? (i := 15) rfl) rfl
theorem qm_X1_61 : Cond.methodLink RX1 61 yX1_restart ∈ TT := tt_2 (List.mem_of_getElem? (i := 16) rfl) rfl
theorem qm_X1_36 : Cond.methodLink RX1 36 yX1_takesDigit ∈ TT := tt_2 (List.mem_of_getElem? (i := 17) rfl) rfl
theorem qi_X1_takesDigit : Cond.instanceMethod yX1_takesDigit ∈ TT := tt_2 (List.mem_of_getElem? (i := 18) rfl) rfl
theorem qs_X1_takesDigit : Cond.selects RX1 yX1_takesDigit yX1_takesDigit ∈ TT := tt_2 (List.mem_of_getElem? (i := 19) rfl) rfl
theorem qc_X1_takesDigit : Cond.code yX1_takesDigit cX1_takesDigit 2 (some .boolean) ∈ TT := tt_2 (List.mem_of_getElem? (i := 20) rfl) rfl
theorem qt_X5_isDealMinutes : Cond.static yX5_isDealMinutes ∈ TT := tt_2 (List.mem_of_getElem? (i := 22) rfl) rfl
theorem qc_X5_isDealMinutes : Cond.code yX5_isDealMinutes cX5_isDealMinutes 1 (some .boolean) ∈ TT := tt_2 (List.mem_of_getElem? (i := 23) rfl) rfl
theorem qm_L_167 : Cond.methodLink RL 167 yX5_votesNeeded ∈ TT := tt_2 (List.mem_of_getElem? (i := 24) rfl) rfl
theorem qi_X5_votesNeeded : Cond.instanceMethod yX5_votesNeeded ∈ TT := tt_2 (List.mem_of_getElem? (i := 25) rfl) rfl
theorem qs_X5_votesNeeded : Cond.selects RX5 yX5_votesNeeded yX5_votesNeeded ∈ TT := tt_2 (List.mem_of_getElem? (i := 26) rfl) rfl
theorem qc_X5_votesNeeded : Cond.code yX5_votesNeeded cX5_votesNeeded 1 (some .int) ∈ TT := tt_2 (List.mem_of_getElem? (i := 27) rfl) rfl
theorem qm_X5_236 : Cond.methodLink RX5 236 yX0_missingVotes ∈ TT := tt_2 (List.mem_of_getElem? (i := 28) rfl) rfl
theorem qi_X0_missingVotes : Cond.instanceMethod yX0_missingVotes ∈ TT := tt_2 (List.mem_of_getElem? (i := 29) rfl) rfl
theorem qs_X0_missingVotes : Cond.selects RX0 yX0_missingVotes yX0_missingVotes ∈ TT := tt_2 (List.mem_of_getElem? (i := 30) rfl) rfl
theorem qc_X0_missingVotes : Cond.code yX0_missingVotes cX0_missingVotes 1 (some .int) ∈ TT := tt_2 (List.mem_of_getElem? (i := 31) rfl) rfl
theorem qm_X0_71 : Cond.methodLink RX0 71 yX0_hasMotion ∈ TT := tt_2 (List.mem_of_getElem? (i := 32) rfl) rfl
theorem qi_X0_hasMotion : Cond.instanceMethod yX0_hasMotion ∈ TT := tt_2 (List.mem_of_getElem? (i := 33) rfl) rfl
theorem qs_X0_hasMotion : Cond.selects RX0 yX0_hasMotion yX0_hasMotion ∈ TT := tt_2 (List.mem_of_getElem? (i := 34) rfl) rfl
theorem qc_X0_hasMotion : Cond.code yX0_hasMotion cX0_hasMotion 1 (some .boolean) ∈ TT := tt_2 (List.mem_of_getElem? (i := 35) rfl) rfl
theorem qm_X0_153 : Cond.methodLink RX0 153 yX0_countVoters ∈ TT := tt_2 (List.mem_of_getElem? (i := 36) rfl) rfl
theorem qi_X0_countVoters : Cond.instanceMethod yX0_countVoters ∈ TT := tt_2 (List.mem_of_getElem? (i := 37) rfl) rfl
theorem qs_X0_countVoters : Cond.selects RX0 yX0_countVoters yX0_countVoters ∈ TT := tt_2 (List.mem_of_getElem? (i := 38) rfl) rfl
theorem qc_X0_countVoters : Cond.code yX0_countVoters cX0_countVoters 1 (some .int) ∈ TT := tt_2 (List.mem_of_getElem? (i := 39) rfl) rfl
theorem qm_X0_150 : Cond.methodLink RX0 150 yX0_countThere ∈ TT := tt_2 (List.mem_of_getElem? (i := 40) rfl) rfl
theorem qi_X0_countThere : Cond.instanceMethod yX0_countThere ∈ TT := tt_2 (List.mem_of_getElem? (i := 41) rfl) rfl
theorem qs_X0_countThere : Cond.selects RX0 yX0_countThere yX0_countThere ∈ TT := tt_2 (List.mem_of_getElem? (i := 42) rfl) rfl
theorem qc_X0_countThere : Cond.code yX0_countThere cX0_countThere 3 (some .int) ∈ TT := tt_2 (List.mem_of_getElem? (i := 43) rfl) rfl
theorem qm_X0_156 : Cond.methodLink RX0 156 yX0_countBallots ∈ TT := tt_2 (List.mem_of_getElem? (i := 44) rfl) rfl
theorem qi_X0_countBallots : Cond.instanceMethod yX0_countBallots ∈ TT := tt_2 (List.mem_of_getElem? (i := 45) rfl) rfl
theorem qs_X0_countBallots : Cond.selects RX0 yX0_countBallots yX0_countBallots ∈ TT := tt_2 (List.mem_of_getElem? (i := 46) rfl) rfl
theorem qc_X0_countBallots : Cond.code yX0_countBallots cX0_countBallots 4 (some .int) ∈ TT := tt_2 (List.mem_of_getElem? (i := 47) rfl) rfl
theorem qm_L_174 : Cond.methodLink RL 174 yX5_minuteWorth ∈ TT := tt_2 (List.mem_of_getElem? (i := 48) rfl) rfl
theorem qi_X5_minuteWorth : Cond.instanceMethod yX5_minuteWorth ∈ TT := tt_2 (List.mem_of_getElem? (i := 49) rfl) rfl
theorem qs_X5_minuteWorth : Cond.selects RX5 yX5_minuteWorth yX5_minuteWorth ∈ TT := tt_2 (List.mem_of_getElem? (i := 50) rfl) rfl
theorem qc_X5_minuteWorth : Cond.code yX5_minuteWorth cX5_minuteWorth 1 (some .double) ∈ TT := tt_2 (List.mem_of_getElem? (i := 51) rfl) rfl
theorem qm_X5_244 : Cond.methodLink RX5 244 yX0_valueOfMinute ∈ TT := tt_2 (List.mem_of_getElem? (i := 52) rfl) rfl
theorem qi_X0_valueOfMinute : Cond.instanceMethod yX0_valueOfMinute ∈ TT := tt_2 (List.mem_of_getElem? (i := 53) rfl) rfl
theorem qs_X0_valueOfMinute : Cond.selects RX0 yX0_valueOfMinute yX0_valueOfMinute ∈ TT := tt_2 (List.mem_of_getElem? (i := 54) rfl) rfl
theorem qc_X0_valueOfMinute : Cond.code yX0_valueOfMinute cX0_valueOfMinute 4 (some .double) ∈ TT := tt_2 (List.mem_of_getElem? (i := 55) rfl) rfl
theorem qm_L_179 : Cond.methodLink RL 179 yX5_digest ∈ TT := tt_2 (List.mem_of_getElem? (i := 56) rfl) rfl
theorem qi_X5_digest : Cond.instanceMethod yX5_digest ∈ TT := tt_2 (List.mem_of_getElem? (i := 57) rfl) rfl
theorem qs_X5_digest : Cond.selects RX5 yX5_digest yX5_digest ∈ TT := tt_2 (List.mem_of_getElem? (i := 58) rfl) rfl
theorem qc_X5_digest : Cond.code yX5_digest cX5_digest 4 (some .long) ∈ TT := tt_2 (List.mem_of_getElem? (i := 59) rfl) rfl
theorem ql_X5_248 : Cond.constantLong RX5 248 (2539) ∈ TT := tt_2 (List.mem_of_getElem? (i := 60) rfl) rfl
theorem qm_X5_220 : Cond.methodLink RX5 220 yX5_number ∈ TT := tt_2 (List.mem_of_getElem? (i := 61) rfl) rfl
theorem qi_X5_number : Cond.instanceMethod yX5_number ∈ TT := tt_2 (List.mem_of_getElem? (i := 63) rfl) rfl
theorem qc_X5_number : Cond.code yX5_number cX5_number 2 (some .int) ∈ TT := tt_2 (List.mem_of_getElem? (i := 64) rfl) rfl
theorem qm_X5_270 : Cond.methodLink RX5 270 yX0_countThere ∈ TT := tt_2 (List.mem_of_getElem? (i := 65) rfl) rfl
theorem qm_X5_282 : Cond.methodLink RX5 282 yX0_sumOfCredits ∈ TT := tt_2 (List.mem_of_getElem? (i := 66) rfl) rfl
theorem qi_X0_sumOfCredits : Cond.instanceMethod yX0_sumOfCredits ∈ TT := tt_2 (List.mem_of_getElem? (i := 67) rfl) rfl
theorem qs_X0_sumOfCredits : Cond.selects RX0 yX0_sumOfCredits yX0_sumOfCredits ∈ TT := tt_2 (List.mem_of_getElem? (i := 68) rfl) rfl
theorem qc_X0_sumOfCredits : Cond.code yX0_sumOfCredits cX0_sumOfCredits 3 (some .int) ∈ TT := tt_2 (List.mem_of_getElem? (i := 69) rfl) rfl
theorem qm_X0_163 : Cond.methodLink RX0 163 Lib.Math.max.name ∈ TT := tt_2 (List.mem_of_getElem? (i := 70) rfl) rfl
theorem qt_Mmax : Cond.static Lib.Math.max.name ∈ TT := tt_2 (List.mem_of_getElem? (i := 71) rfl) rfl
theorem qc_Mmax : Cond.code Lib.Math.max.name Lib.Math.max.code 2 (some .int) ∈ TT := tt_2 (List.mem_of_getElem? (i := 72) rfl) rfl
theorem qm_X5_285 : Cond.methodLink RX5 285 yX0_sumOfDebts ∈ TT := tt_2 (List.mem_of_getElem? (i := 73) rfl) rfl
theorem qi_X0_sumOfDebts : Cond.instanceMethod yX0_sumOfDebts ∈ TT := tt_2 (List.mem_of_getElem? (i := 74) rfl) rfl
theorem qs_X0_sumOfDebts : Cond.selects RX0 yX0_sumOfDebts yX0_sumOfDebts ∈ TT := tt_2 (List.mem_of_getElem? (i := 75) rfl) rfl
theorem qc_X0_sumOfDebts : Cond.code yX0_sumOfDebts cX0_sumOfDebts 3 (some .int) ∈ TT := tt_2 (List.mem_of_getElem? (i := 76) rfl) rfl
theorem qm_X0_115 : Cond.methodLink RX0 115 Lib.Math.min.name ∈ TT := tt_2 (List.mem_of_getElem? (i := 77) rfl) rfl
theorem qt_Mmin : Cond.static Lib.Math.min.name ∈ TT := tt_2 (List.mem_of_getElem? (i := 78) rfl) rfl
theorem qc_Mmin : Cond.code Lib.Math.min.name Lib.Math.min.code 2 (some .int) ∈ TT := tt_2 (List.mem_of_getElem? (i := 79) rfl) rfl
theorem qm_X5_288 : Cond.methodLink RX5 288 yX0_sumOfLoans ∈ TT := tt_2 (List.mem_of_getElem? (i := 80) rfl) rfl
theorem qi_X0_sumOfLoans : Cond.instanceMethod yX0_sumOfLoans ∈ TT := tt_2 (List.mem_of_getElem? (i := 81) rfl) rfl
theorem qs_X0_sumOfLoans : Cond.selects RX0 yX0_sumOfLoans yX0_sumOfLoans ∈ TT := tt_2 (List.mem_of_getElem? (i := 82) rfl) rfl
theorem qc_X0_sumOfLoans : Cond.code yX0_sumOfLoans cX0_sumOfLoans 3 (some .int) ∈ TT := tt_2 (List.mem_of_getElem? (i := 83) rfl) rfl
theorem qm_X5_167 : Cond.methodLink RX5 167 yX0_countBallots ∈ TT := tt_2 (List.mem_of_getElem? (i := 84) rfl) rfl
theorem qm_X5_250 : Cond.methodLink RX5 250 yX5_mixed ∈ TT := tt_2 (List.mem_of_getElem? (i := 85) rfl) rfl
theorem qt_X5_mixed : Cond.static yX5_mixed ∈ TT := tt_2 (List.mem_of_getElem? (i := 86) rfl) rfl
theorem qc_X5_mixed : Cond.code yX5_mixed cX5_mixed 4 (some .long) ∈ TT := tt_2 (List.mem_of_getElem? (i := 87) rfl) rfl
theorem ql_X5_297 : Cond.constantLong RX5 297 (31) ∈ TT := tt_2 (List.mem_of_getElem? (i := 88) rfl) rfl
theorem qm_X5_254 : Cond.methodLink RX5 254 yX5_mixedMember ∈ TT := tt_2 (List.mem_of_getElem? (i := 89) rfl) rfl
theorem qi_X5_mixedMember : Cond.instanceMethod yX5_mixedMember ∈ TT := tt_2 (List.mem_of_getElem? (i := 91) rfl) rfl
theorem qc_X5_mixedMember : Cond.code yX5_mixedMember cX5_mixedMember 7 (some .long) ∈ TT := tt_2 (List.mem_of_getElem? (i := 92) rfl) rfl
theorem qm_X5_206 : Cond.methodLink RX5 206 yX0_memberProperty ∈ TT := tt_2 (List.mem_of_getElem? (i := 93) rfl) rfl
theorem qi_X0_memberProperty : Cond.instanceMethod yX0_memberProperty ∈ TT := tt_2 (List.mem_of_getElem? (i := 94) rfl) rfl
theorem qs_X0_memberProperty : Cond.selects RX0 yX0_memberProperty yX0_memberProperty ∈ TT := tt_2 (List.mem_of_getElem? (i := 95) rfl) rfl
theorem qc_X0_memberProperty : Cond.code yX0_memberProperty cX0_memberProperty 4 (some .int) ∈ TT := tt_2 (List.mem_of_getElem? (i := 96) rfl) rfl
theorem qm_X0_166 : Cond.methodLink RX0 166 yX0_canVote ∈ TT := tt_2 (List.mem_of_getElem? (i := 97) rfl) rfl
theorem qi_X0_canVote : Cond.instanceMethod yX0_canVote ∈ TT := tt_2 (List.mem_of_getElem? (i := 98) rfl) rfl
theorem qs_X0_canVote : Cond.selects RX0 yX0_canVote yX0_canVote ∈ TT := tt_2 (List.mem_of_getElem? (i := 99) rfl) rfl
theorem qc_X0_canVote : Cond.code yX0_canVote cX0_canVote 2 (some .boolean) ∈ TT := tt_2 (List.mem_of_getElem? (i := 100) rfl) rfl
theorem qm_X5_215 : Cond.methodLink RX5 215 yX4_ripeness ∈ TT := tt_2 (List.mem_of_getElem? (i := 101) rfl) rfl
theorem qi_X4_ripeness : Cond.instanceMethod yX4_ripeness ∈ TT := tt_2 (List.mem_of_getElem? (i := 102) rfl) rfl
theorem qs_X4_ripeness : Cond.selects RX4 yX4_ripeness yX4_ripeness ∈ TT := tt_2 (List.mem_of_getElem? (i := 103) rfl) rfl
theorem qc_X4_ripeness : Cond.code yX4_ripeness cX4_ripeness 2 (some .int) ∈ TT := tt_2 (List.mem_of_getElem? (i := 104) rfl) rfl
theorem qm_X4_53 : Cond.methodLink RX4 53 Lib.Math.min.name ∈ TT := tt_2 (List.mem_of_getElem? (i := 105) rfl) rfl
theorem qm_X5_226 : Cond.methodLink RX5 226 yX0_longestDeal ∈ TT := tt_2 (List.mem_of_getElem? (i := 106) rfl) rfl
theorem qi_X0_longestDeal : Cond.instanceMethod yX0_longestDeal ∈ TT := tt_2 (List.mem_of_getElem? (i := 107) rfl) rfl
theorem qs_X0_longestDeal : Cond.selects RX0 yX0_longestDeal yX0_longestDeal ∈ TT := tt_2 (List.mem_of_getElem? (i := 108) rfl) rfl
theorem qc_X0_longestDeal : Cond.code yX0_longestDeal cX0_longestDeal 6 (some .int) ∈ TT := tt_2 (List.mem_of_getElem? (i := 109) rfl) rfl
theorem qm_X0_83 : Cond.methodLink RX0 83 yX0_areBothThere ∈ TT := tt_2 (List.mem_of_getElem? (i := 110) rfl) rfl
theorem qi_X0_areBothThere : Cond.instanceMethod yX0_areBothThere ∈ TT := tt_2 (List.mem_of_getElem? (i := 111) rfl) rfl
theorem qs_X0_areBothThere : Cond.selects RX0 yX0_areBothThere yX0_areBothThere ∈ TT := tt_2 (List.mem_of_getElem? (i := 112) rfl) rfl
theorem qc_X0_areBothThere : Cond.code yX0_areBothThere cX0_areBothThere 3 (some .boolean) ∈ TT := tt_2 (List.mem_of_getElem? (i := 113) rfl) rfl
theorem qm_X0_120 : Cond.methodLink RX0 120 yX4_dealRate ∈ TT := tt_2 (List.mem_of_getElem? (i := 114) rfl) rfl
theorem qi_X4_dealRate : Cond.instanceMethod yX4_dealRate ∈ TT := tt_2 (List.mem_of_getElem? (i := 115) rfl) rfl
theorem qs_X4_dealRate : Cond.selects RX4 yX4_dealRate yX4_dealRate ∈ TT := tt_2 (List.mem_of_getElem? (i := 116) rfl) rfl
theorem qc_X4_dealRate : Cond.code yX4_dealRate cX4_dealRate 2 (some .int) ∈ TT := tt_2 (List.mem_of_getElem? (i := 117) rfl) rfl
theorem qm_X4_59 : Cond.methodLink RX4 59 yX4_ripeness ∈ TT := tt_2 (List.mem_of_getElem? (i := 118) rfl) rfl
theorem qm_X5_230 : Cond.methodLink RX5 230 yX0_cheapestGiver ∈ TT := tt_2 (List.mem_of_getElem? (i := 119) rfl) rfl
theorem qi_X0_cheapestGiver : Cond.instanceMethod yX0_cheapestGiver ∈ TT := tt_2 (List.mem_of_getElem? (i := 120) rfl) rfl
theorem qs_X0_cheapestGiver : Cond.selects RX0 yX0_cheapestGiver yX0_cheapestGiver ∈ TT := tt_2 (List.mem_of_getElem? (i := 121) rfl) rfl
theorem qc_X0_cheapestGiver : Cond.code yX0_cheapestGiver cX0_cheapestGiver 6 (some .int) ∈ TT := tt_2 (List.mem_of_getElem? (i := 122) rfl) rfl
theorem qm_X0_124 : Cond.methodLink RX0 124 yX0_allowsDeal ∈ TT := tt_2 (List.mem_of_getElem? (i := 123) rfl) rfl
theorem qi_X0_allowsDeal : Cond.instanceMethod yX0_allowsDeal ∈ TT := tt_2 (List.mem_of_getElem? (i := 124) rfl) rfl
theorem qs_X0_allowsDeal : Cond.selects RX0 yX0_allowsDeal yX0_allowsDeal ∈ TT := tt_2 (List.mem_of_getElem? (i := 125) rfl) rfl
theorem qc_X0_allowsDeal : Cond.code yX0_allowsDeal cX0_allowsDeal 5 (some .boolean) ∈ TT := tt_2 (List.mem_of_getElem? (i := 126) rfl) rfl
theorem qm_X0_79 : Cond.methodLink RX0 79 yX0_isMember ∈ TT := tt_2 (List.mem_of_getElem? (i := 127) rfl) rfl
theorem qi_X0_isMember : Cond.instanceMethod yX0_isMember ∈ TT := tt_2 (List.mem_of_getElem? (i := 128) rfl) rfl
theorem qs_X0_isMember : Cond.selects RX0 yX0_isMember yX0_isMember ∈ TT := tt_2 (List.mem_of_getElem? (i := 129) rfl) rfl
theorem qc_X0_isMember : Cond.code yX0_isMember cX0_isMember 2 (some .boolean) ∈ TT := tt_2 (List.mem_of_getElem? (i := 130) rfl) rfl
theorem qm_X0_87 : Cond.methodLink RX0 87 yX4_dealValue ∈ TT := tt_2 (List.mem_of_getElem? (i := 131) rfl) rfl
theorem qi_X4_dealValue : Cond.instanceMethod yX4_dealValue ∈ TT := tt_2 (List.mem_of_getElem? (i := 132) rfl) rfl
theorem qs_X4_dealValue : Cond.selects RX4 yX4_dealValue yX4_dealValue ∈ TT := tt_2 (List.mem_of_getElem? (i := 133) rfl) rfl
theorem qc_X4_dealValue : Cond.code yX4_dealValue cX4_dealValue 3 (some .int) ∈ TT := tt_2 (List.mem_of_getElem? (i := 134) rfl) rfl
theorem qm_X4_63 : Cond.methodLink RX4 63 yX4_dealRate ∈ TT := tt_2 (List.mem_of_getElem? (i := 135) rfl) rfl
theorem qm_X0_91 : Cond.methodLink RX0 91 yX0_canPay ∈ TT := tt_2 (List.mem_of_getElem? (i := 136) rfl) rfl
theorem qi_X0_canPay : Cond.instanceMethod yX0_canPay ∈ TT := tt_2 (List.mem_of_getElem? (i := 137) rfl) rfl
theorem qs_X0_canPay : Cond.selects RX0 yX0_canPay yX0_canPay ∈ TT := tt_2 (List.mem_of_getElem? (i := 138) rfl) rfl
theorem qc_X0_canPay : Cond.code yX0_canPay cX0_canPay 3 (some .boolean) ∈ TT := tt_2 (List.mem_of_getElem? (i := 139) rfl) rfl
theorem qm_X0_128 : Cond.methodLink RX0 128 yX0_isCheaper ∈ TT := tt_2 (List.mem_of_getElem? (i := 140) rfl) rfl
theorem qi_X0_isCheaper : Cond.instanceMethod yX0_isCheaper ∈ TT := tt_2 (List.mem_of_getElem? (i := 141) rfl) rfl
theorem qs_X0_isCheaper : Cond.selects RX0 yX0_isCheaper yX0_isCheaper ∈ TT := tt_2 (List.mem_of_getElem? (i := 142) rfl) rfl
theorem qc_X0_isCheaper : Cond.code yX0_isCheaper cX0_isCheaper 7 (some .boolean) ∈ TT := tt_2 (List.mem_of_getElem? (i := 143) rfl) rfl
theorem qm_X5_233 : Cond.methodLink RX5 233 yX0_foreseenDecay ∈ TT := tt_2 (List.mem_of_getElem? (i := 144) rfl) rfl
theorem qi_X0_foreseenDecay : Cond.instanceMethod yX0_foreseenDecay ∈ TT := tt_2 (List.mem_of_getElem? (i := 145) rfl) rfl
theorem qs_X0_foreseenDecay : Cond.selects RX0 yX0_foreseenDecay yX0_foreseenDecay ∈ TT := tt_2 (List.mem_of_getElem? (i := 146) rfl) rfl
theorem qc_X0_foreseenDecay : Cond.code yX0_foreseenDecay cX0_foreseenDecay 7 (some .int) ∈ TT := tt_2 (List.mem_of_getElem? (i := 147) rfl) rfl
theorem qt_X5_decayingPart : Cond.static yX5_decayingPart ∈ TT := tt_2 (List.mem_of_getElem? (i := 149) rfl) rfl
theorem qc_X5_decayingPart : Cond.code yX5_decayingPart cX5_decayingPart 2 (some .int) ∈ TT := tt_2 (List.mem_of_getElem? (i := 150) rfl) rfl
theorem qm_X5_241 : Cond.methodLink RX5 241 yX0_mostPractised ∈ TT := tt_2 (List.mem_of_getElem? (i := 151) rfl) rfl
theorem qi_X0_mostPractised : Cond.instanceMethod yX0_mostPractised ∈ TT := tt_2 (List.mem_of_getElem? (i := 152) rfl) rfl
theorem qs_X0_mostPractised : Cond.selects RX0 yX0_mostPractised yX0_mostPractised ∈ TT := tt_2 (List.mem_of_getElem? (i := 153) rfl) rfl
theorem qc_X0_mostPractised : Cond.code yX0_mostPractised cX0_mostPractised 4 (some .int) ∈ TT := tt_2 (List.mem_of_getElem? (i := 154) rfl) rfl
theorem qm_X5_258 : Cond.methodLink RX5 258 yX5_bitsOfWorth ∈ TT := tt_2 (List.mem_of_getElem? (i := 155) rfl) rfl
theorem qt_X5_bitsOfWorth : Cond.static yX5_bitsOfWorth ∈ TT := tt_2 (List.mem_of_getElem? (i := 156) rfl) rfl
theorem qc_X5_bitsOfWorth : Cond.code yX5_bitsOfWorth cX5_bitsOfWorth 2 (some .long) ∈ TT := tt_2 (List.mem_of_getElem? (i := 157) rfl) rfl
theorem ql_X5_299 : Cond.constantLong RX5 299 (4607182418800017408) ∈ TT := tt_2 (List.mem_of_getElem? (i := 158) rfl) rfl
theorem qd_X5_301 : Cond.constantDouble RX5 301 (4841369599423283200) ∈ TT := tt_2 (List.mem_of_getElem? (i := 159) rfl) rfl
theorem qm_X5_262 : Cond.methodLink RX5 262 yX5_mixedText ∈ TT := tt_2 (List.mem_of_getElem? (i := 160) rfl) rfl
theorem qi_X5_mixedText : Cond.instanceMethod yX5_mixedText ∈ TT := tt_2 (List.mem_of_getElem? (i := 162) rfl) rfl
theorem qc_X5_mixedText : Cond.code yX5_mixedText cX5_mixedText 6 (some .long) ∈ TT := tt_2 (List.mem_of_getElem? (i := 163) rfl) rfl
theorem qm_L_88 : Cond.methodLink RL 88 yL_join ∈ TT := tt_2 (List.mem_of_getElem? (i := 164) rfl) rfl
theorem qt_L_join : Cond.static yL_join ∈ TT := tt_2 (List.mem_of_getElem? (i := 165) rfl) rfl
theorem qw_L_join : Cond.codeWith yL_join cL_join 3 (some .int) [(0, 8, 11, 13)] ∈ TT := tt_2 (List.mem_of_getElem? (i := 166) rfl) rfl
theorem qk_L_13 : Cond.classLink RL 13 "java/lang/IllegalStateException" ∈ TT := tt_2 (List.mem_of_getElem? (i := 167) rfl) rfl
theorem qm_L_7 : Cond.methodLink RL 7 yX5_join ∈ TT := tt_2 (List.mem_of_getElem? (i := 168) rfl) rfl
theorem qi_X5_join : Cond.instanceMethod yX5_join ∈ TT := tt_2 (List.mem_of_getElem? (i := 169) rfl) rfl
theorem qs_X5_join : Cond.selects RX5 yX5_join yX5_join ∈ TT := tt_2 (List.mem_of_getElem? (i := 170) rfl) rfl
theorem qc_X5_join : Cond.code yX5_join cX5_join 1 (some .int) ∈ TT := tt_2 (List.mem_of_getElem? (i := 171) rfl) rfl
theorem qk_X5_34 : Cond.classLink RX5 34 "java/lang/IllegalStateException" ∈ TT := tt_2 (List.mem_of_getElem? (i := 172) rfl) rfl
theorem qr_byte : Cond.arrayClass .byte ∈ TT := tt_2 (List.mem_of_getElem? (i := 239) rfl) rfl
theorem qm_X5_41 : Cond.methodLink RX5 41 yX3_keep ∈ TT := tt_3 (List.mem_of_getElem? (i := 0) rfl) rfl
theorem qi_X3_keep : Cond.instanceMethod yX3_keep ∈ TT := tt_3 (List.mem_of_getElem? (i := 1) rfl) rfl
theorem qs_X3_keep : Cond.selects RX3 yX3_keep yX3_keep ∈ TT := tt_3 (List.mem_of_getElem? (i := 2) rfl) rfl
theorem qc_X3_keep : Cond.code yX3_keep cX3_keep 2 none ∈ TT := tt_3 (List.mem_of_getElem? (i := 3) rfl) rfl
theorem qm_X3_22 : Cond.methodLink RX3 22 yX0_copyFrom ∈ TT := tt_3 (List.mem_of_getElem? (i := 4) rfl) rfl
theorem qi_X0_copyFrom : Cond.instanceMethod yX0_copyFrom ∈ TT := tt_3 (List.mem_of_getElem? (i := 5) rfl) rfl
theorem qs_X0_copyFrom : Cond.selects RX0 yX0_copyFrom yX0_copyFrom ∈ TT := tt_3 (List.mem_of_getElem? (i := 6) rfl) rfl
theorem qc_X0_copyFrom : Cond.code yX0_copyFrom cX0_copyFrom 3 none ∈ TT := tt_3 (List.mem_of_getElem? (i := 7) rfl) rfl
theorem qm_X0_29 : Cond.methodLink RX0 29 yX4_copyFrom ∈ TT := tt_3 (List.mem_of_getElem? (i := 8) rfl) rfl
theorem qi_X4_copyFrom : Cond.instanceMethod yX4_copyFrom ∈ TT := tt_3 (List.mem_of_getElem? (i := 9) rfl) rfl
theorem qs_X4_copyFrom : Cond.selects RX4 yX4_copyFrom yX4_copyFrom ∈ TT := tt_3 (List.mem_of_getElem? (i := 10) rfl) rfl
theorem qc_X4_copyFrom : Cond.code yX4_copyFrom cX4_copyFrom 3 none ∈ TT := tt_3 (List.mem_of_getElem? (i := 11) rfl) rfl
theorem qm_X3_29 : Cond.methodLink RX3 29 Lib.Math.min.name ∈ TT := tt_3 (List.mem_of_getElem? (i := 12) rfl) rfl
theorem qm_X5_45 : Cond.methodLink RX5 45 yX0_admit ∈ TT := tt_3 (List.mem_of_getElem? (i := 13) rfl) rfl
theorem qi_X0_admit : Cond.instanceMethod yX0_admit ∈ TT := tt_3 (List.mem_of_getElem? (i := 14) rfl) rfl
theorem qs_X0_admit : Cond.selects RX0 yX0_admit yX0_admit ∈ TT := tt_3 (List.mem_of_getElem? (i := 15) rfl) rfl
theorem qc_X0_admit : Cond.code yX0_admit cX0_admit 3 (some .int) ∈ TT := tt_3 (List.mem_of_getElem? (i := 16) rfl) rfl
theorem qm_L_97 : Cond.methodLink RL 97 yL_leave ∈ TT := tt_3 (List.mem_of_getElem? (i := 17) rfl) rfl
theorem qt_L_leave : Cond.static yL_leave ∈ TT := tt_3 (List.mem_of_getElem? (i := 18) rfl) rfl
theorem qw_L_leave : Cond.codeWith yL_leave cL_leave 4 (some .int) [(0, 9, 12, 19), (0, 9, 15, 13)] ∈ TT := tt_3 (List.mem_of_getElem? (i := 19) rfl) rfl
theorem qk_L_19 : Cond.classLink RL 19 "java/lang/IndexOutOfBoundsException" ∈ TT := tt_3 (List.mem_of_getElem? (i := 20) rfl) rfl
theorem qm_L_15 : Cond.methodLink RL 15 yX5_leave ∈ TT := tt_3 (List.mem_of_getElem? (i := 21) rfl) rfl
theorem qi_X5_leave : Cond.instanceMethod yX5_leave ∈ TT := tt_3 (List.mem_of_getElem? (i := 22) rfl) rfl
theorem qs_X5_leave : Cond.selects RX5 yX5_leave yX5_leave ∈ TT := tt_3 (List.mem_of_getElem? (i := 23) rfl) rfl
theorem qc_X5_leave : Cond.code yX5_leave cX5_leave 2 (some .int) ∈ TT := tt_3 (List.mem_of_getElem? (i := 24) rfl) rfl
theorem qm_X5_49 : Cond.methodLink RX5 49 yX0_isMember ∈ TT := tt_3 (List.mem_of_getElem? (i := 25) rfl) rfl
theorem qk_X5_53 : Cond.classLink RX5 53 "java/lang/IndexOutOfBoundsException" ∈ TT := tt_3 (List.mem_of_getElem? (i := 26) rfl) rfl
theorem qm_X5_73 : Cond.methodLink RX5 73 yX0_dismiss ∈ TT := tt_3 (List.mem_of_getElem? (i := 43) rfl) rfl
theorem qi_X0_dismiss : Cond.instanceMethod yX0_dismiss ∈ TT := tt_3 (List.mem_of_getElem? (i := 44) rfl) rfl
theorem qs_X0_dismiss : Cond.selects RX0 yX0_dismiss yX0_dismiss ∈ TT := tt_3 (List.mem_of_getElem? (i := 45) rfl) rfl
theorem qc_X0_dismiss : Cond.code yX0_dismiss cX0_dismiss 4 (some .int) ∈ TT := tt_3 (List.mem_of_getElem? (i := 46) rfl) rfl
theorem qm_X0_61 : Cond.methodLink RX0 61 yX0_payToCommon ∈ TT := tt_3 (List.mem_of_getElem? (i := 47) rfl) rfl
theorem qi_X0_payToCommon : Cond.instanceMethod yX0_payToCommon ∈ TT := tt_3 (List.mem_of_getElem? (i := 48) rfl) rfl
theorem qs_X0_payToCommon : Cond.selects RX0 yX0_payToCommon yX0_payToCommon ∈ TT := tt_3 (List.mem_of_getElem? (i := 49) rfl) rfl
theorem qc_X0_payToCommon : Cond.code yX0_payToCommon cX0_payToCommon 3 none ∈ TT := tt_3 (List.mem_of_getElem? (i := 50) rfl) rfl
theorem qm_X0_68 : Cond.methodLink RX0 68 yX0_dropMotion ∈ TT := tt_3 (List.mem_of_getElem? (i := 51) rfl) rfl
theorem qi_X0_dropMotion : Cond.instanceMethod yX0_dropMotion ∈ TT := tt_3 (List.mem_of_getElem? (i := 52) rfl) rfl
theorem qs_X0_dropMotion : Cond.selects RX0 yX0_dropMotion yX0_dropMotion ∈ TT := tt_3 (List.mem_of_getElem? (i := 53) rfl) rfl
theorem qc_X0_dropMotion : Cond.code yX0_dropMotion cX0_dropMotion 2 none ∈ TT := tt_3 (List.mem_of_getElem? (i := 54) rfl) rfl
theorem qm_X0_75 : Cond.methodLink RX0 75 yX0_settleMotion ∈ TT := tt_3 (List.mem_of_getElem? (i := 55) rfl) rfl
theorem qi_X0_settleMotion : Cond.instanceMethod yX0_settleMotion ∈ TT := tt_3 (List.mem_of_getElem? (i := 56) rfl) rfl
theorem qs_X0_settleMotion : Cond.selects RX0 yX0_settleMotion yX0_settleMotion ∈ TT := tt_3 (List.mem_of_getElem? (i := 57) rfl) rfl
theorem qc_X0_settleMotion : Cond.code yX0_settleMotion cX0_settleMotion 2 (some .int) ∈ TT := tt_3 (List.mem_of_getElem? (i := 58) rfl) rfl
theorem qm_X0_159 : Cond.methodLink RX0 159 yX0_forgive ∈ TT := tt_3 (List.mem_of_getElem? (i := 59) rfl) rfl
theorem qi_X0_forgive : Cond.instanceMethod yX0_forgive ∈ TT := tt_3 (List.mem_of_getElem? (i := 60) rfl) rfl
theorem qs_X0_forgive : Cond.selects RX0 yX0_forgive yX0_forgive ∈ TT := tt_3 (List.mem_of_getElem? (i := 61) rfl) rfl
theorem qc_X0_forgive : Cond.code yX0_forgive cX0_forgive 1 none ∈ TT := tt_3 (List.mem_of_getElem? (i := 62) rfl) rfl
theorem qm_L_101 : Cond.methodLink RL 101 yL_give ∈ TT := tt_3 (List.mem_of_getElem? (i := 63) rfl) rfl
theorem qt_L_give : Cond.static yL_give ∈ TT := tt_3 (List.mem_of_getElem? (i := 64) rfl) rfl
theorem qw_L_give : Cond.codeWith yL_give cL_give 7 (some .int) [(0, 14, 17, 19), (0, 14, 21, 25), (0, 14, 25, 13)] ∈ TT := tt_3 (List.mem_of_getElem? (i := 65) rfl) rfl
theorem qk_L_25 : Cond.classLink RL 25 "java/lang/IllegalArgumentException" ∈ TT := tt_3 (List.mem_of_getElem? (i := 66) rfl) rfl
theorem qm_L_21 : Cond.methodLink RL 21 yX5_give ∈ TT := tt_3 (List.mem_of_getElem? (i := 67) rfl) rfl
theorem qi_X5_give : Cond.instanceMethod yX5_give ∈ TT := tt_3 (List.mem_of_getElem? (i := 68) rfl) rfl
theorem qs_X5_give : Cond.selects RX5 yX5_give yX5_give ∈ TT := tt_3 (List.mem_of_getElem? (i := 69) rfl) rfl
theorem qc_X5_give : Cond.code yX5_give cX5_give 5 (some .int) ∈ TT := tt_3 (List.mem_of_getElem? (i := 70) rfl) rfl
theorem qm_X5_77 : Cond.methodLink RX5 77 yX5_isSkill ∈ TT := tt_3 (List.mem_of_getElem? (i := 71) rfl) rfl
theorem qm_X5_82 : Cond.methodLink RX5 82 yX5_isDealMinutes ∈ TT := tt_3 (List.mem_of_getElem? (i := 73) rfl) rfl
theorem qk_X5_85 : Cond.classLink RX5 85 "java/lang/IllegalArgumentException" ∈ TT := tt_3 (List.mem_of_getElem? (i := 74) rfl) rfl
theorem qm_X5_90 : Cond.methodLink RX5 90 yX0_allowsDeal ∈ TT := tt_3 (List.mem_of_getElem? (i := 90) rfl) rfl
theorem qm_X5_96 : Cond.methodLink RX5 96 yX0_makeDeal ∈ TT := tt_3 (List.mem_of_getElem? (i := 92) rfl) rfl
theorem qi_X0_makeDeal : Cond.instanceMethod yX0_makeDeal ∈ TT := tt_3 (List.mem_of_getElem? (i := 93) rfl) rfl
theorem qs_X0_makeDeal : Cond.selects RX0 yX0_makeDeal yX0_makeDeal ∈ TT := tt_3 (List.mem_of_getElem? (i := 94) rfl) rfl
theorem qc_X0_makeDeal : Cond.code yX0_makeDeal cX0_makeDeal 8 (some .int) ∈ TT := tt_3 (List.mem_of_getElem? (i := 95) rfl) rfl
theorem qm_X0_109 : Cond.methodLink RX0 109 yX4_practise ∈ TT := tt_3 (List.mem_of_getElem? (i := 96) rfl) rfl
theorem qi_X4_practise : Cond.instanceMethod yX4_practise ∈ TT := tt_3 (List.mem_of_getElem? (i := 97) rfl) rfl
theorem qs_X4_practise : Cond.selects RX4 yX4_practise yX4_practise ∈ TT := tt_3 (List.mem_of_getElem? (i := 98) rfl) rfl
theorem qc_X4_practise : Cond.code yX4_practise cX4_practise 3 none ∈ TT := tt_3 (List.mem_of_getElem? (i := 99) rfl) rfl
theorem qm_X0_112 : Cond.methodLink RX0 112 yX0_payLoanBack ∈ TT := tt_3 (List.mem_of_getElem? (i := 100) rfl) rfl
theorem qi_X0_payLoanBack : Cond.instanceMethod yX0_payLoanBack ∈ TT := tt_3 (List.mem_of_getElem? (i := 101) rfl) rfl
theorem qs_X0_payLoanBack : Cond.selects RX0 yX0_payLoanBack yX0_payLoanBack ∈ TT := tt_3 (List.mem_of_getElem? (i := 102) rfl) rfl
theorem qc_X0_payLoanBack : Cond.code yX0_payLoanBack cX0_payLoanBack 4 none ∈ TT := tt_3 (List.mem_of_getElem? (i := 103) rfl) rfl
theorem qm_L_105 : Cond.methodLink RL 105 yL_donate ∈ TT := tt_3 (List.mem_of_getElem? (i := 104) rfl) rfl
theorem qt_L_donate : Cond.static yL_donate ∈ TT := tt_3 (List.mem_of_getElem? (i := 105) rfl) rfl
theorem qw_L_donate : Cond.codeWith yL_donate cL_donate 5 (some .int) [(0, 10, 13, 19), (0, 10, 17, 25), (0, 10, 21, 13)] ∈ TT := tt_3 (List.mem_of_getElem? (i := 106) rfl) rfl
theorem qm_L_27 : Cond.methodLink RL 27 yX5_donate ∈ TT := tt_3 (List.mem_of_getElem? (i := 107) rfl) rfl
theorem qi_X5_donate : Cond.instanceMethod yX5_donate ∈ TT := tt_3 (List.mem_of_getElem? (i := 108) rfl) rfl
theorem qs_X5_donate : Cond.selects RX5 yX5_donate yX5_donate ∈ TT := tt_3 (List.mem_of_getElem? (i := 109) rfl) rfl
theorem qc_X5_donate : Cond.code yX5_donate cX5_donate 3 (some .int) ∈ TT := tt_3 (List.mem_of_getElem? (i := 110) rfl) rfl
theorem qm_X5_108 : Cond.methodLink RX5 108 yX0_payToCommon ∈ TT := tt_3 (List.mem_of_getElem? (i := 113) rfl) rfl
theorem qm_L_109 : Cond.methodLink RL 109 yL_pass ∈ TT := tt_3 (List.mem_of_getElem? (i := 114) rfl) rfl
theorem qt_L_pass : Cond.static yL_pass ∈ TT := tt_3 (List.mem_of_getElem? (i := 115) rfl) rfl
theorem qw_L_pass : Cond.codeWith yL_pass cL_pass 4 (some .int) [(0, 9, 12, 25), (0, 9, 15, 13)] ∈ TT := tt_3 (List.mem_of_getElem? (i := 116) rfl) rfl
theorem qm_L_31 : Cond.methodLink RL 31 yX5_pass ∈ TT := tt_3 (List.mem_of_getElem? (i := 117) rfl) rfl
theorem qi_X5_pass : Cond.instanceMethod yX5_pass ∈ TT := tt_3 (List.mem_of_getElem? (i := 118) rfl) rfl
theorem qs_X5_pass : Cond.selects RX5 yX5_pass yX5_pass ∈ TT := tt_3 (List.mem_of_getElem? (i := 119) rfl) rfl
theorem qc_X5_pass : Cond.code yX5_pass cX5_pass 4 (some .int) ∈ TT := tt_3 (List.mem_of_getElem? (i := 120) rfl) rfl
theorem qm_X5_119 : Cond.methodLink RX5 119 yX0_endWeek ∈ TT := tt_3 (List.mem_of_getElem? (i := 123) rfl) rfl
theorem qi_X0_endWeek : Cond.instanceMethod yX0_endWeek ∈ TT := tt_3 (List.mem_of_getElem? (i := 124) rfl) rfl
theorem qs_X0_endWeek : Cond.selects RX0 yX0_endWeek yX0_endWeek ∈ TT := tt_3 (List.mem_of_getElem? (i := 125) rfl) rfl
theorem qc_X0_endWeek : Cond.code yX0_endWeek cX0_endWeek 3 (some .int) ∈ TT := tt_3 (List.mem_of_getElem? (i := 126) rfl) rfl
theorem qm_X0_134 : Cond.methodLink RX0 134 yX0_endWeekOf ∈ TT := tt_3 (List.mem_of_getElem? (i := 127) rfl) rfl
theorem qi_X0_endWeekOf : Cond.instanceMethod yX0_endWeekOf ∈ TT := tt_3 (List.mem_of_getElem? (i := 128) rfl) rfl
theorem qs_X0_endWeekOf : Cond.selects RX0 yX0_endWeekOf yX0_endWeekOf ∈ TT := tt_3 (List.mem_of_getElem? (i := 129) rfl) rfl
theorem qc_X0_endWeekOf : Cond.code yX0_endWeekOf cX0_endWeekOf 4 (some .int) ∈ TT := tt_3 (List.mem_of_getElem? (i := 130) rfl) rfl
theorem qm_X0_146 : Cond.methodLink RX0 146 yX4_rust ∈ TT := tt_3 (List.mem_of_getElem? (i := 131) rfl) rfl
theorem qi_X4_rust : Cond.instanceMethod yX4_rust ∈ TT := tt_3 (List.mem_of_getElem? (i := 132) rfl) rfl
theorem qs_X4_rust : Cond.selects RX4 yX4_rust yX4_rust ∈ TT := tt_3 (List.mem_of_getElem? (i := 133) rfl) rfl
theorem qc_X4_rust : Cond.code yX4_rust cX4_rust 3 none ∈ TT := tt_3 (List.mem_of_getElem? (i := 134) rfl) rfl
theorem qm_X4_66 : Cond.methodLink RX4 66 Lib.Math.max.name ∈ TT := tt_3 (List.mem_of_getElem? (i := 135) rfl) rfl
theorem qm_L_112 : Cond.methodLink RL 112 yL_set ∈ TT := tt_3 (List.mem_of_getElem? (i := 136) rfl) rfl
theorem qt_L_set : Cond.static yL_set ∈ TT := tt_3 (List.mem_of_getElem? (i := 137) rfl) rfl
theorem qw_L_set : Cond.codeWith yL_set cL_set 5 (some .int) [(0, 10, 13, 19), (0, 10, 17, 25)] ∈ TT := tt_3 (List.mem_of_getElem? (i := 138) rfl) rfl
theorem qm_L_34 : Cond.methodLink RL 34 yX5_set ∈ TT := tt_3 (List.mem_of_getElem? (i := 139) rfl) rfl
theorem qi_X5_set : Cond.instanceMethod yX5_set ∈ TT := tt_3 (List.mem_of_getElem? (i := 140) rfl) rfl
theorem qs_X5_set : Cond.selects RX5 yX5_set yX5_set ∈ TT := tt_3 (List.mem_of_getElem? (i := 141) rfl) rfl
theorem qc_X5_set : Cond.code yX5_set cX5_set 4 (some .int) ∈ TT := tt_3 (List.mem_of_getElem? (i := 142) rfl) rfl
theorem qm_X5_122 : Cond.methodLink RX5 122 yX5_isSetting ∈ TT := tt_3 (List.mem_of_getElem? (i := 143) rfl) rfl
theorem qt_X5_isSetting : Cond.static yX5_isSetting ∈ TT := tt_3 (List.mem_of_getElem? (i := 144) rfl) rfl
theorem qc_X5_isSetting : Cond.code yX5_isSetting cX5_isSetting 1 (some .boolean) ∈ TT := tt_3 (List.mem_of_getElem? (i := 145) rfl) rfl
theorem qf_X5_127 : Cond.fieldLink RX5 127 "RipeHours" "GREATEST_SETTINGS" "[I" ∈ TT := tt_3 (List.mem_of_getElem? (i := 147) rfl) rfl
theorem qm_L_115 : Cond.methodLink RL 115 yL_move ∈ TT := tt_3 (List.mem_of_getElem? (i := 150) rfl) rfl
theorem qt_L_move : Cond.static yL_move ∈ TT := tt_3 (List.mem_of_getElem? (i := 151) rfl) rfl
theorem qw_L_move : Cond.codeWith yL_move cL_move 5 (some .int) [(0, 10, 13, 19), (0, 10, 17, 25), (0, 10, 21, 13)] ∈ TT := tt_3 (List.mem_of_getElem? (i := 152) rfl) rfl
theorem qm_L_37 : Cond.methodLink RL 37 yX5_move ∈ TT := tt_3 (List.mem_of_getElem? (i := 153) rfl) rfl
theorem qi_X5_move : Cond.instanceMethod yX5_move ∈ TT := tt_3 (List.mem_of_getElem? (i := 154) rfl) rfl
theorem qs_X5_move : Cond.selects RX5 yX5_move yX5_move ∈ TT := tt_3 (List.mem_of_getElem? (i := 155) rfl) rfl
theorem qc_X5_move : Cond.code yX5_move cX5_move 3 (some .int) ∈ TT := tt_3 (List.mem_of_getElem? (i := 156) rfl) rfl
theorem qm_X5_138 : Cond.methodLink RX5 138 yX0_allowsMotion ∈ TT := tt_3 (List.mem_of_getElem? (i := 158) rfl) rfl
theorem qi_X0_allowsMotion : Cond.instanceMethod yX0_allowsMotion ∈ TT := tt_3 (List.mem_of_getElem? (i := 159) rfl) rfl
theorem qs_X0_allowsMotion : Cond.selects RX0 yX0_allowsMotion yX0_allowsMotion ∈ TT := tt_3 (List.mem_of_getElem? (i := 160) rfl) rfl
theorem qc_X0_allowsMotion : Cond.code yX0_allowsMotion cX0_allowsMotion 3 (some .boolean) ∈ TT := tt_3 (List.mem_of_getElem? (i := 161) rfl) rfl
theorem qm_X5_144 : Cond.methodLink RX5 144 yX0_openMotion ∈ TT := tt_3 (List.mem_of_getElem? (i := 163) rfl) rfl
theorem qi_X0_openMotion : Cond.instanceMethod yX0_openMotion ∈ TT := tt_3 (List.mem_of_getElem? (i := 164) rfl) rfl
theorem qs_X0_openMotion : Cond.selects RX0 yX0_openMotion yX0_openMotion ∈ TT := tt_3 (List.mem_of_getElem? (i := 165) rfl) rfl
theorem qc_X0_openMotion : Cond.code yX0_openMotion cX0_openMotion 3 none ∈ TT := tt_3 (List.mem_of_getElem? (i := 166) rfl) rfl
theorem qm_X5_147 : Cond.methodLink RX5 147 yX0_countVoters ∈ TT := tt_3 (List.mem_of_getElem? (i := 167) rfl) rfl
theorem qm_L_118 : Cond.methodLink RL 118 yL_vote ∈ TT := tt_3 (List.mem_of_getElem? (i := 168) rfl) rfl
theorem qt_L_vote : Cond.static yL_vote ∈ TT := tt_3 (List.mem_of_getElem? (i := 169) rfl) rfl
theorem qw_L_vote : Cond.codeWith yL_vote cL_vote 5 (some .int) [(0, 10, 13, 19), (0, 10, 17, 13)] ∈ TT := tt_3 (List.mem_of_getElem? (i := 170) rfl) rfl
theorem qm_L_40 : Cond.methodLink RL 40 yX5_vote ∈ TT := tt_3 (List.mem_of_getElem? (i := 171) rfl) rfl
theorem qi_X5_vote : Cond.instanceMethod yX5_vote ∈ TT := tt_3 (List.mem_of_getElem? (i := 172) rfl) rfl
theorem qs_X5_vote : Cond.selects RX5 yX5_vote yX5_vote ∈ TT := tt_3 (List.mem_of_getElem? (i := 173) rfl) rfl
theorem qc_X5_vote : Cond.code yX5_vote cX5_vote 3 (some .int) ∈ TT := tt_3 (List.mem_of_getElem? (i := 174) rfl) rfl
theorem qm_X5_150 : Cond.methodLink RX5 150 yX0_canVote ∈ TT := tt_3 (List.mem_of_getElem? (i := 175) rfl) rfl
theorem qm_X5_158 : Cond.methodLink RX5 158 yX0_settleMotion ∈ TT := tt_3 (List.mem_of_getElem? (i := 177) rfl) rfl
theorem qm_L_122 : Cond.methodLink RL 122 yL_takeBack ∈ TT := tt_3 (List.mem_of_getElem? (i := 178) rfl) rfl
theorem qt_L_takeBack : Cond.static yL_takeBack ∈ TT := tt_3 (List.mem_of_getElem? (i := 179) rfl) rfl
theorem qw_L_takeBack : Cond.codeWith yL_takeBack cL_takeBack 3 (some .int) [(0, 8, 11, 13)] ∈ TT := tt_3 (List.mem_of_getElem? (i := 180) rfl) rfl
theorem qm_L_44 : Cond.methodLink RL 44 yX5_takeBack ∈ TT := tt_3 (List.mem_of_getElem? (i := 181) rfl) rfl
theorem qi_X5_takeBack : Cond.instanceMethod yX5_takeBack ∈ TT := tt_3 (List.mem_of_getElem? (i := 182) rfl) rfl
theorem qs_X5_takeBack : Cond.selects RX5 yX5_takeBack yX5_takeBack ∈ TT := tt_3 (List.mem_of_getElem? (i := 183) rfl) rfl
theorem qc_X5_takeBack : Cond.code yX5_takeBack cX5_takeBack 2 (some .int) ∈ TT := tt_3 (List.mem_of_getElem? (i := 184) rfl) rfl
theorem qm_X5_161 : Cond.methodLink RX5 161 yX0_hasMotion ∈ TT := tt_3 (List.mem_of_getElem? (i := 185) rfl) rfl
theorem qm_X5_170 : Cond.methodLink RX5 170 yX0_dropMotion ∈ TT := tt_3 (List.mem_of_getElem? (i := 187) rfl) rfl
theorem qm_L_125 : Cond.methodLink RL 125 yL_append ∈ TT := tt_3 (List.mem_of_getElem? (i := 188) rfl) rfl
theorem qt_L_append : Cond.static yL_append ∈ TT := tt_3 (List.mem_of_getElem? (i := 189) rfl) rfl
theorem qw_L_append : Cond.codeWith yL_append cL_append 4 (some .int) [(0, 9, 12, 25), (0, 9, 15, 13)] ∈ TT := tt_3 (List.mem_of_getElem? (i := 190) rfl) rfl
theorem qm_L_47 : Cond.methodLink RL 47 yX5_append ∈ TT := tt_3 (List.mem_of_getElem? (i := 191) rfl) rfl
theorem qi_X5_append : Cond.instanceMethod yX5_append ∈ TT := tt_3 (List.mem_of_getElem? (i := 192) rfl) rfl
theorem qs_X5_append : Cond.selects RX5 yX5_append yX5_append ∈ TT := tt_3 (List.mem_of_getElem? (i := 193) rfl) rfl
theorem qc_X5_append : Cond.code yX5_append cX5_append 2 (some .int) ∈ TT := tt_3 (List.mem_of_getElem? (i := 194) rfl) rfl
theorem qm_X5_180 : Cond.methodLink RX5 180 yX2_addSign ∈ TT := tt_3 (List.mem_of_getElem? (i := 197) rfl) rfl
theorem qi_X2_addSign : Cond.instanceMethod yX2_addSign ∈ TT := tt_3 (List.mem_of_getElem? (i := 198) rfl) rfl
theorem qs_X2_addSign : Cond.selects RX2 yX2_addSign yX2_addSign ∈ TT := tt_3 (List.mem_of_getElem? (i := 199) rfl) rfl
theorem qc_X2_addSign : Cond.code yX2_addSign cX2_addSign 2 none ∈ TT := tt_3 (List.mem_of_getElem? (i := 200) rfl) rfl
theorem qm_L_136 : Cond.methodLink RL 136 yL_run ∈ TT := tt_3 (List.mem_of_getElem? (i := 201) rfl) rfl
theorem qt_L_run : Cond.static yL_run ∈ TT := tt_3 (List.mem_of_getElem? (i := 202) rfl) rfl
theorem qw_L_run : Cond.codeWith yL_run cL_run 3 (some .int) [(0, 8, 11, 25)] ∈ TT := tt_3 (List.mem_of_getElem? (i := 203) rfl) rfl
theorem qm_L_50 : Cond.methodLink RL 50 yX5_run ∈ TT := tt_3 (List.mem_of_getElem? (i := 204) rfl) rfl
theorem qi_X5_run : Cond.instanceMethod yX5_run ∈ TT := tt_3 (List.mem_of_getElem? (i := 205) rfl) rfl
theorem qs_X5_run : Cond.selects RX5 yX5_run yX5_run ∈ TT := tt_3 (List.mem_of_getElem? (i := 206) rfl) rfl
theorem qc_X5_run : Cond.code yX5_run cX5_run 2 (some .int) ∈ TT := tt_3 (List.mem_of_getElem? (i := 207) rfl) rfl
theorem qm_X5_187 : Cond.methodLink RX5 187 yX2_isWholeRow ∈ TT := tt_3 (List.mem_of_getElem? (i := 208) rfl) rfl
theorem qi_X2_isWholeRow : Cond.instanceMethod yX2_isWholeRow ∈ TT := tt_3 (List.mem_of_getElem? (i := 209) rfl) rfl
theorem qs_X2_isWholeRow : Cond.selects RX2 yX2_isWholeRow yX2_isWholeRow ∈ TT := tt_3 (List.mem_of_getElem? (i := 210) rfl) rfl
theorem qc_X2_isWholeRow : Cond.code yX2_isWholeRow cX2_isWholeRow 1 (some .boolean) ∈ TT := tt_3 (List.mem_of_getElem? (i := 211) rfl) rfl
theorem qm_X2_33 : Cond.methodLink RX2 33 yX2_findError ∈ TT := tt_3 (List.mem_of_getElem? (i := 212) rfl) rfl
theorem qm_X2_37 : Cond.methodLink RX2 37 yX1_isDealWhole ∈ TT := tt_3 (List.mem_of_getElem? (i := 213) rfl) rfl
theorem qm_X5_192 : Cond.methodLink RX5 192 yX2_makeDeals ∈ TT := tt_3 (List.mem_of_getElem? (i := 215) rfl) rfl
theorem qi_X2_makeDeals : Cond.instanceMethod yX2_makeDeals ∈ TT := tt_3 (List.mem_of_getElem? (i := 216) rfl) rfl
theorem qs_X2_makeDeals : Cond.selects RX2 yX2_makeDeals yX2_makeDeals ∈ TT := tt_3 (List.mem_of_getElem? (i := 217) rfl) rfl
theorem qc_X2_makeDeals : Cond.code yX2_makeDeals cX2_makeDeals 4 (some .int) ∈ TT := tt_3 (List.mem_of_getElem? (i := 218) rfl) rfl
theorem qm_X2_41 : Cond.methodLink RX2 41 yX1_makesDeal ∈ TT := tt_3 (List.mem_of_getElem? (i := 219) rfl) rfl
theorem qi_X1_makesDeal : Cond.instanceMethod yX1_makesDeal ∈ TT := tt_3 (List.mem_of_getElem? (i := 220) rfl) rfl
theorem qs_X1_makesDeal : Cond.selects RX1 yX1_makesDeal yX1_makesDeal ∈ TT := tt_3 (List.mem_of_getElem? (i := 221) rfl) rfl
theorem qc_X1_makesDeal : Cond.code yX1_makesDeal cX1_makesDeal 2 (some .boolean) ∈ TT := tt_3 (List.mem_of_getElem? (i := 222) rfl) rfl
theorem qm_X1_64 : Cond.methodLink RX1 64 yX0_allowsDeal ∈ TT := tt_3 (List.mem_of_getElem? (i := 223) rfl) rfl
theorem qm_X1_70 : Cond.methodLink RX1 70 yX0_makeDeal ∈ TT := tt_3 (List.mem_of_getElem? (i := 224) rfl) rfl
theorem qm_L_139 : Cond.methodLink RL 139 yL_undo ∈ TT := tt_3 (List.mem_of_getElem? (i := 225) rfl) rfl
theorem qt_L_undo : Cond.static yL_undo ∈ TT := tt_3 (List.mem_of_getElem? (i := 226) rfl) rfl
theorem qw_L_undo : Cond.codeWith yL_undo cL_undo 3 (some .int) [(0, 8, 11, 13)] ∈ TT := tt_3 (List.mem_of_getElem? (i := 227) rfl) rfl
theorem qm_L_53 : Cond.methodLink RL 53 yX5_undo ∈ TT := tt_3 (List.mem_of_getElem? (i := 228) rfl) rfl
theorem qi_X5_undo : Cond.instanceMethod yX5_undo ∈ TT := tt_3 (List.mem_of_getElem? (i := 229) rfl) rfl
theorem qs_X5_undo : Cond.selects RX5 yX5_undo yX5_undo ∈ TT := tt_3 (List.mem_of_getElem? (i := 230) rfl) rfl
theorem qc_X5_undo : Cond.code yX5_undo cX5_undo 1 (some .int) ∈ TT := tt_3 (List.mem_of_getElem? (i := 231) rfl) rfl
theorem qm_X5_201 : Cond.methodLink RX5 201 yX3_restore ∈ TT := tt_3 (List.mem_of_getElem? (i := 233) rfl) rfl
theorem qi_X3_restore : Cond.instanceMethod yX3_restore ∈ TT := tt_3 (List.mem_of_getElem? (i := 234) rfl) rfl
theorem qs_X3_restore : Cond.selects RX3 yX3_restore yX3_restore ∈ TT := tt_3 (List.mem_of_getElem? (i := 235) rfl) rfl
theorem qc_X3_restore : Cond.code yX3_restore cX3_restore 2 none ∈ TT := tt_3 (List.mem_of_getElem? (i := 236) rfl) rfl
theorem qm_L_142 : Cond.methodLink RL 142 yL_member ∈ TT := tt_3 (List.mem_of_getElem? (i := 237) rfl) rfl
theorem qt_L_member : Cond.static yL_member ∈ TT := tt_3 (List.mem_of_getElem? (i := 238) rfl) rfl
theorem qw_L_member : Cond.codeWith yL_member cL_member 5 (some .int) [(0, 10, 13, 19), (0, 10, 17, 25)] ∈ TT := tt_3 (List.mem_of_getElem? (i := 239) rfl) rfl
theorem qm_L_56 : Cond.methodLink RL 56 yX5_member ∈ TT := tt_4 (List.mem_of_getElem? (i := 0) rfl) rfl
theorem qi_X5_member : Cond.instanceMethod yX5_member ∈ TT := tt_4 (List.mem_of_getElem? (i := 1) rfl) rfl
theorem qs_X5_member : Cond.selects RX5 yX5_member yX5_member ∈ TT := tt_4 (List.mem_of_getElem? (i := 2) rfl) rfl
theorem qc_X5_member : Cond.code yX5_member cX5_member 3 (some .int) ∈ TT := tt_4 (List.mem_of_getElem? (i := 3) rfl) rfl
theorem qm_L_145 : Cond.methodLink RL 145 yL_skill ∈ TT := tt_4 (List.mem_of_getElem? (i := 5) rfl) rfl
theorem qt_L_skill : Cond.static yL_skill ∈ TT := tt_4 (List.mem_of_getElem? (i := 6) rfl) rfl
theorem qw_L_skill : Cond.codeWith yL_skill cL_skill 6 (some .int) [(0, 12, 15, 19), (0, 12, 19, 25)] ∈ TT := tt_4 (List.mem_of_getElem? (i := 7) rfl) rfl
theorem qm_L_59 : Cond.methodLink RL 59 yX5_skill ∈ TT := tt_4 (List.mem_of_getElem? (i := 8) rfl) rfl
theorem qi_X5_skill : Cond.instanceMethod yX5_skill ∈ TT := tt_4 (List.mem_of_getElem? (i := 9) rfl) rfl
theorem qs_X5_skill : Cond.selects RX5 yX5_skill yX5_skill ∈ TT := tt_4 (List.mem_of_getElem? (i := 10) rfl) rfl
theorem qc_X5_skill : Cond.code yX5_skill cX5_skill 4 (some .int) ∈ TT := tt_4 (List.mem_of_getElem? (i := 11) rfl) rfl
theorem qm_L_149 : Cond.methodLink RL 149 yL_count ∈ TT := tt_4 (List.mem_of_getElem? (i := 13) rfl) rfl
theorem qt_L_count : Cond.static yL_count ∈ TT := tt_4 (List.mem_of_getElem? (i := 14) rfl) rfl
theorem qw_L_count : Cond.codeWith yL_count cL_count 4 (some .int) [(0, 9, 12, 25)] ∈ TT := tt_4 (List.mem_of_getElem? (i := 15) rfl) rfl
theorem qm_L_63 : Cond.methodLink RL 63 yX5_count ∈ TT := tt_4 (List.mem_of_getElem? (i := 16) rfl) rfl
theorem qi_X5_count : Cond.instanceMethod yX5_count ∈ TT := tt_4 (List.mem_of_getElem? (i := 17) rfl) rfl
theorem qs_X5_count : Cond.selects RX5 yX5_count yX5_count ∈ TT := tt_4 (List.mem_of_getElem? (i := 18) rfl) rfl
theorem qc_X5_count : Cond.code yX5_count cX5_count 2 (some .int) ∈ TT := tt_4 (List.mem_of_getElem? (i := 19) rfl) rfl
theorem qm_L_152 : Cond.methodLink RL 152 yL_setting ∈ TT := tt_4 (List.mem_of_getElem? (i := 21) rfl) rfl
theorem qt_L_setting : Cond.static yL_setting ∈ TT := tt_4 (List.mem_of_getElem? (i := 22) rfl) rfl
theorem qw_L_setting : Cond.codeWith yL_setting cL_setting 4 (some .int) [(0, 9, 12, 19)] ∈ TT := tt_4 (List.mem_of_getElem? (i := 23) rfl) rfl
theorem qm_L_66 : Cond.methodLink RL 66 yX5_setting ∈ TT := tt_4 (List.mem_of_getElem? (i := 24) rfl) rfl
theorem qi_X5_setting : Cond.instanceMethod yX5_setting ∈ TT := tt_4 (List.mem_of_getElem? (i := 25) rfl) rfl
theorem qs_X5_setting : Cond.selects RX5 yX5_setting yX5_setting ∈ TT := tt_4 (List.mem_of_getElem? (i := 26) rfl) rfl
theorem qc_X5_setting : Cond.code yX5_setting cX5_setting 2 (some .int) ∈ TT := tt_4 (List.mem_of_getElem? (i := 27) rfl) rfl
theorem qm_L_155 : Cond.methodLink RL 155 yL_worth ∈ TT := tt_4 (List.mem_of_getElem? (i := 28) rfl) rfl
theorem qt_L_worth : Cond.static yL_worth ∈ TT := tt_4 (List.mem_of_getElem? (i := 29) rfl) rfl
theorem qw_L_worth : Cond.codeWith yL_worth cL_worth 6 (some .int) [(0, 12, 15, 19), (0, 12, 19, 25)] ∈ TT := tt_4 (List.mem_of_getElem? (i := 30) rfl) rfl
theorem qm_L_69 : Cond.methodLink RL 69 yX5_worth ∈ TT := tt_4 (List.mem_of_getElem? (i := 31) rfl) rfl
theorem qi_X5_worth : Cond.instanceMethod yX5_worth ∈ TT := tt_4 (List.mem_of_getElem? (i := 32) rfl) rfl
theorem qs_X5_worth : Cond.selects RX5 yX5_worth yX5_worth ∈ TT := tt_4 (List.mem_of_getElem? (i := 33) rfl) rfl
theorem qc_X5_worth : Cond.code yX5_worth cX5_worth 4 (some .int) ∈ TT := tt_4 (List.mem_of_getElem? (i := 34) rfl) rfl
theorem qm_X5_223 : Cond.methodLink RX5 223 yX4_dealValue ∈ TT := tt_4 (List.mem_of_getElem? (i := 35) rfl) rfl
theorem qm_L_158 : Cond.methodLink RL 158 yL_longest ∈ TT := tt_4 (List.mem_of_getElem? (i := 36) rfl) rfl
theorem qt_L_longest : Cond.static yL_longest ∈ TT := tt_4 (List.mem_of_getElem? (i := 37) rfl) rfl
theorem qw_L_longest : Cond.codeWith yL_longest cL_longest 6 (some .int) [(0, 12, 15, 19)] ∈ TT := tt_4 (List.mem_of_getElem? (i := 38) rfl) rfl
theorem qm_L_72 : Cond.methodLink RL 72 yX5_longest ∈ TT := tt_4 (List.mem_of_getElem? (i := 39) rfl) rfl
theorem qi_X5_longest : Cond.instanceMethod yX5_longest ∈ TT := tt_4 (List.mem_of_getElem? (i := 40) rfl) rfl
theorem qs_X5_longest : Cond.selects RX5 yX5_longest yX5_longest ∈ TT := tt_4 (List.mem_of_getElem? (i := 41) rfl) rfl
theorem qc_X5_longest : Cond.code yX5_longest cX5_longest 4 (some .int) ∈ TT := tt_4 (List.mem_of_getElem? (i := 42) rfl) rfl
theorem qm_L_161 : Cond.methodLink RL 161 yL_cheapest ∈ TT := tt_4 (List.mem_of_getElem? (i := 43) rfl) rfl
theorem qt_L_cheapest : Cond.static yL_cheapest ∈ TT := tt_4 (List.mem_of_getElem? (i := 44) rfl) rfl
theorem qw_L_cheapest : Cond.codeWith yL_cheapest cL_cheapest 6 (some .int) [(0, 12, 15, 19), (0, 12, 19, 25)] ∈ TT := tt_4 (List.mem_of_getElem? (i := 45) rfl) rfl
theorem qm_L_75 : Cond.methodLink RL 75 yX5_cheapest ∈ TT := tt_4 (List.mem_of_getElem? (i := 46) rfl) rfl
theorem qi_X5_cheapest : Cond.instanceMethod yX5_cheapest ∈ TT := tt_4 (List.mem_of_getElem? (i := 47) rfl) rfl
theorem qs_X5_cheapest : Cond.selects RX5 yX5_cheapest yX5_cheapest ∈ TT := tt_4 (List.mem_of_getElem? (i := 48) rfl) rfl
theorem qc_X5_cheapest : Cond.code yX5_cheapest cX5_cheapest 4 (some .int) ∈ TT := tt_4 (List.mem_of_getElem? (i := 49) rfl) rfl
theorem qm_L_164 : Cond.methodLink RL 164 yL_decayIn ∈ TT := tt_4 (List.mem_of_getElem? (i := 50) rfl) rfl
theorem qt_L_decayIn : Cond.static yL_decayIn ∈ TT := tt_4 (List.mem_of_getElem? (i := 51) rfl) rfl
theorem qw_L_decayIn : Cond.codeWith yL_decayIn cL_decayIn 5 (some .int) [(0, 10, 13, 19), (0, 10, 17, 25)] ∈ TT := tt_4 (List.mem_of_getElem? (i := 52) rfl) rfl
theorem qm_L_78 : Cond.methodLink RL 78 yX5_decayIn ∈ TT := tt_4 (List.mem_of_getElem? (i := 53) rfl) rfl
theorem qi_X5_decayIn : Cond.instanceMethod yX5_decayIn ∈ TT := tt_4 (List.mem_of_getElem? (i := 54) rfl) rfl
theorem qs_X5_decayIn : Cond.selects RX5 yX5_decayIn yX5_decayIn ∈ TT := tt_4 (List.mem_of_getElem? (i := 55) rfl) rfl
theorem qc_X5_decayIn : Cond.code yX5_decayIn cX5_decayIn 3 (some .int) ∈ TT := tt_4 (List.mem_of_getElem? (i := 56) rfl) rfl
theorem qm_L_171 : Cond.methodLink RL 171 yL_ripest ∈ TT := tt_4 (List.mem_of_getElem? (i := 57) rfl) rfl
theorem qt_L_ripest : Cond.static yL_ripest ∈ TT := tt_4 (List.mem_of_getElem? (i := 58) rfl) rfl
theorem qw_L_ripest : Cond.codeWith yL_ripest cL_ripest 4 (some .int) [(0, 9, 12, 19)] ∈ TT := tt_4 (List.mem_of_getElem? (i := 59) rfl) rfl
theorem qm_L_81 : Cond.methodLink RL 81 yX5_ripest ∈ TT := tt_4 (List.mem_of_getElem? (i := 60) rfl) rfl
theorem qi_X5_ripest : Cond.instanceMethod yX5_ripest ∈ TT := tt_4 (List.mem_of_getElem? (i := 61) rfl) rfl
theorem qs_X5_ripest : Cond.selects RX5 yX5_ripest yX5_ripest ∈ TT := tt_4 (List.mem_of_getElem? (i := 62) rfl) rfl
theorem qc_X5_ripest : Cond.code yX5_ripest cX5_ripest 2 (some .int) ∈ TT := tt_4 (List.mem_of_getElem? (i := 63) rfl) rfl
theorem qk_L_85 : Cond.classLink RL 85 RX6 ∈ TT := tt_4 (List.mem_of_getElem? (i := 65) rfl) rfl
theorem qa_X6 : Cond.instantiable RX6 12 ∈ TT := tt_4 (List.mem_of_getElem? (i := 66) rfl) rfl
theorem qm_L_87 : Cond.methodLink RL 87 yX6_init ∈ TT := tt_4 (List.mem_of_getElem? (i := 67) rfl) rfl
theorem qi_X6_init : Cond.instanceMethod yX6_init ∈ TT := tt_4 (List.mem_of_getElem? (i := 68) rfl) rfl
theorem qc_X6_init : Cond.code yX6_init cX6_init 1 none ∈ TT := tt_4 (List.mem_of_getElem? (i := 69) rfl) rfl
theorem qm_X6_1 : Cond.methodLink RX6 1 objectInit ∈ TT := tt_4 (List.mem_of_getElem? (i := 70) rfl) rfl
theorem qf_X6_7 : Cond.fieldLink RX6 7 "RipeHoursModel" "z" "[I" ∈ TT := tt_4 (List.mem_of_getElem? (i := 71) rfl) rfl
theorem qf_X6_29 : Cond.fieldLink RX6 29 "RipeHoursModel" "states" "I" ∈ TT := tt_4 (List.mem_of_getElem? (i := 72) rfl) rfl
theorem qf_X6_13 : Cond.fieldLink RX6 13 "RipeHoursModel" "history" "[I" ∈ TT := tt_4 (List.mem_of_getElem? (i := 73) rfl) rfl
theorem qf_X6_120 : Cond.fieldLink RX6 120 "RipeHoursModel" "length" "I" ∈ TT := tt_4 (List.mem_of_getElem? (i := 74) rfl) rfl
theorem qf_X6_16 : Cond.fieldLink RX6 16 "RipeHoursModel" "text" "[I" ∈ TT := tt_4 (List.mem_of_getElem? (i := 75) rfl) rfl
theorem qf_X6_25 : Cond.fieldLink RX6 25 "RipeHoursModel" "thrown" "I" ∈ TT := tt_4 (List.mem_of_getElem? (i := 76) rfl) rfl
theorem qf_X6_19 : Cond.fieldLink RX6 19 "RipeHoursModel" "parts" "[I" ∈ TT := tt_4 (List.mem_of_getElem? (i := 77) rfl) rfl
theorem qf_X6_126 : Cond.fieldLink RX6 126 "RipeHoursModel" "read" "I" ∈ TT := tt_4 (List.mem_of_getElem? (i := 78) rfl) rfl
theorem qf_X6_123 : Cond.fieldLink RX6 123 "RipeHoursModel" "number" "I" ∈ TT := tt_4 (List.mem_of_getElem? (i := 79) rfl) rfl
theorem qf_X6_129 : Cond.fieldLink RX6 129 "RipeHoursModel" "due" "I" ∈ TT := tt_4 (List.mem_of_getElem? (i := 80) rfl) rfl
theorem qf_X6_22 : Cond.fieldLink RX6 22 "RipeHoursModel" "kept" "[I" ∈ TT := tt_4 (List.mem_of_getElem? (i := 81) rfl) rfl
theorem qf_X6_184 : Cond.fieldLink RX6 184 "RipeHoursModel" "hash" "J" ∈ TT := tt_4 (List.mem_of_getElem? (i := 82) rfl) rfl
theorem qy_X6_z : Cond.laysFinal RX6 "RipeHoursModel" "z" "[I" ∈ TT := tt_4 (List.mem_of_getElem? (i := 83) rfl) rfl
theorem qy_X6_states : Cond.lays RX6 "RipeHoursModel" "states" "I" ∈ TT := tt_4 (List.mem_of_getElem? (i := 85) rfl) rfl
theorem qy_X6_history : Cond.laysFinal RX6 "RipeHoursModel" "history" "[I" ∈ TT := tt_4 (List.mem_of_getElem? (i := 87) rfl) rfl
theorem qy_X6_length : Cond.lays RX6 "RipeHoursModel" "length" "I" ∈ TT := tt_4 (List.mem_of_getElem? (i := 89) rfl) rfl
theorem qy_X6_text : Cond.laysFinal RX6 "RipeHoursModel" "text" "[I" ∈ TT := tt_4 (List.mem_of_getElem? (i := 91) rfl) rfl
theorem qy_X6_thrown : Cond.lays RX6 "RipeHoursModel" "thrown" "I" ∈ TT := tt_4 (List.mem_of_getElem? (i := 93) rfl) rfl
theorem qy_X6_parts : Cond.laysFinal RX6 "RipeHoursModel" "parts" "[I" ∈ TT := tt_4 (List.mem_of_getElem? (i := 95) rfl) rfl
theorem qy_X6_read : Cond.lays RX6 "RipeHoursModel" "read" "I" ∈ TT := tt_4 (List.mem_of_getElem? (i := 97) rfl) rfl
theorem qy_X6_number : Cond.lays RX6 "RipeHoursModel" "number" "I" ∈ TT := tt_4 (List.mem_of_getElem? (i := 99) rfl) rfl
theorem qy_X6_due : Cond.lays RX6 "RipeHoursModel" "due" "I" ∈ TT := tt_4 (List.mem_of_getElem? (i := 101) rfl) rfl
theorem qy_X6_kept : Cond.laysFinal RX6 "RipeHoursModel" "kept" "[I" ∈ TT := tt_4 (List.mem_of_getElem? (i := 103) rfl) rfl
theorem qy_X6_hash : Cond.lays RX6 "RipeHoursModel" "hash" "J" ∈ TT := tt_4 (List.mem_of_getElem? (i := 105) rfl) rfl
theorem qm_L_94 : Cond.methodLink RL 94 yX6_thrown ∈ TT := tt_4 (List.mem_of_getElem? (i := 108) rfl) rfl
theorem qi_X6_thrown : Cond.instanceMethod yX6_thrown ∈ TT := tt_4 (List.mem_of_getElem? (i := 109) rfl) rfl
theorem qs_X6_thrown : Cond.selects RX6 yX6_thrown yX6_thrown ∈ TT := tt_4 (List.mem_of_getElem? (i := 110) rfl) rfl
theorem qc_X6_thrown : Cond.code yX6_thrown cX6_thrown 1 (some .int) ∈ TT := tt_4 (List.mem_of_getElem? (i := 111) rfl) rfl
theorem qm_L_93 : Cond.methodLink RL 93 yX6_join ∈ TT := tt_4 (List.mem_of_getElem? (i := 112) rfl) rfl
theorem qi_X6_join : Cond.instanceMethod yX6_join ∈ TT := tt_4 (List.mem_of_getElem? (i := 113) rfl) rfl
theorem qs_X6_join : Cond.selects RX6 yX6_join yX6_join ∈ TT := tt_4 (List.mem_of_getElem? (i := 114) rfl) rfl
theorem qc_X6_join : Cond.code yX6_join cX6_join 2 (some .int) ∈ TT := tt_4 (List.mem_of_getElem? (i := 115) rfl) rfl
theorem qm_X6_58 : Cond.methodLink RX6 58 yX6_save ∈ TT := tt_4 (List.mem_of_getElem? (i := 116) rfl) rfl
theorem qi_X6_save : Cond.instanceMethod yX6_save ∈ TT := tt_4 (List.mem_of_getElem? (i := 118) rfl) rfl
theorem qc_X6_save : Cond.code yX6_save cX6_save 2 none ∈ TT := tt_4 (List.mem_of_getElem? (i := 119) rfl) rfl
theorem qm_X6_61 : Cond.methodLink RX6 61 yX6_put ∈ TT := tt_4 (List.mem_of_getElem? (i := 120) rfl) rfl
theorem qi_X6_put : Cond.instanceMethod yX6_put ∈ TT := tt_4 (List.mem_of_getElem? (i := 122) rfl) rfl
theorem qc_X6_put : Cond.code yX6_put cX6_put 4 none ∈ TT := tt_4 (List.mem_of_getElem? (i := 123) rfl) rfl
theorem qm_L_100 : Cond.methodLink RL 100 yX6_leave ∈ TT := tt_4 (List.mem_of_getElem? (i := 124) rfl) rfl
theorem qi_X6_leave : Cond.instanceMethod yX6_leave ∈ TT := tt_4 (List.mem_of_getElem? (i := 125) rfl) rfl
theorem qs_X6_leave : Cond.selects RX6 yX6_leave yX6_leave ∈ TT := tt_4 (List.mem_of_getElem? (i := 126) rfl) rfl
theorem qc_X6_leave : Cond.code yX6_leave cX6_leave 4 (some .int) ∈ TT := tt_4 (List.mem_of_getElem? (i := 127) rfl) rfl
theorem qm_X6_64 : Cond.methodLink RX6 64 yX6_isMember ∈ TT := tt_4 (List.mem_of_getElem? (i := 128) rfl) rfl
theorem qi_X6_isMember : Cond.instanceMethod yX6_isMember ∈ TT := tt_4 (List.mem_of_getElem? (i := 130) rfl) rfl
theorem qc_X6_isMember : Cond.code yX6_isMember cX6_isMember 2 (some .boolean) ∈ TT := tt_4 (List.mem_of_getElem? (i := 131) rfl) rfl
theorem qm_X6_32 : Cond.methodLink RX6 32 yX6_within ∈ TT := tt_4 (List.mem_of_getElem? (i := 132) rfl) rfl
theorem qt_X6_within : Cond.static yX6_within ∈ TT := tt_4 (List.mem_of_getElem? (i := 133) rfl) rfl
theorem qc_X6_within : Cond.code yX6_within cX6_within 3 (some .boolean) ∈ TT := tt_4 (List.mem_of_getElem? (i := 134) rfl) rfl
theorem qm_X6_68 : Cond.methodLink RX6 68 yX6_isThere ∈ TT := tt_4 (List.mem_of_getElem? (i := 135) rfl) rfl
theorem qi_X6_isThere : Cond.instanceMethod yX6_isThere ∈ TT := tt_4 (List.mem_of_getElem? (i := 137) rfl) rfl
theorem qc_X6_isThere : Cond.code yX6_isThere cX6_isThere 2 (some .boolean) ∈ TT := tt_4 (List.mem_of_getElem? (i := 138) rfl) rfl
theorem qm_X6_36 : Cond.methodLink RX6 36 yX6_of ∈ TT := tt_4 (List.mem_of_getElem? (i := 139) rfl) rfl
theorem qi_X6_of : Cond.instanceMethod yX6_of ∈ TT := tt_4 (List.mem_of_getElem? (i := 141) rfl) rfl
theorem qc_X6_of : Cond.code yX6_of cX6_of 3 (some .int) ∈ TT := tt_4 (List.mem_of_getElem? (i := 142) rfl) rfl
theorem qm_X6_55 : Cond.methodLink RX6 55 yX6_endMotion ∈ TT := tt_4 (List.mem_of_getElem? (i := 143) rfl) rfl
theorem qi_X6_endMotion : Cond.instanceMethod yX6_endMotion ∈ TT := tt_4 (List.mem_of_getElem? (i := 145) rfl) rfl
theorem qc_X6_endMotion : Cond.code yX6_endMotion cX6_endMotion 1 none ∈ TT := tt_4 (List.mem_of_getElem? (i := 146) rfl) rfl
theorem qm_X6_71 : Cond.methodLink RX6 71 yX6_lookAt ∈ TT := tt_4 (List.mem_of_getElem? (i := 147) rfl) rfl
theorem qi_X6_lookAt : Cond.instanceMethod yX6_lookAt ∈ TT := tt_4 (List.mem_of_getElem? (i := 149) rfl) rfl
theorem qc_X6_lookAt : Cond.code yX6_lookAt cX6_lookAt 3 (some .int) ∈ TT := tt_4 (List.mem_of_getElem? (i := 150) rfl) rfl
theorem qm_X6_44 : Cond.methodLink RX6 44 yX6_othersOf ∈ TT := tt_4 (List.mem_of_getElem? (i := 151) rfl) rfl
theorem qi_X6_othersOf : Cond.instanceMethod yX6_othersOf ∈ TT := tt_4 (List.mem_of_getElem? (i := 153) rfl) rfl
theorem qc_X6_othersOf : Cond.code yX6_othersOf cX6_othersOf 2 (some .int) ∈ TT := tt_4 (List.mem_of_getElem? (i := 154) rfl) rfl
theorem qm_X6_40 : Cond.methodLink RX6 40 yX6_allThere ∈ TT := tt_4 (List.mem_of_getElem? (i := 155) rfl) rfl
theorem qi_X6_allThere : Cond.instanceMethod yX6_allThere ∈ TT := tt_4 (List.mem_of_getElem? (i := 157) rfl) rfl
theorem qc_X6_allThere : Cond.code yX6_allThere cX6_allThere 3 (some .int) ∈ TT := tt_4 (List.mem_of_getElem? (i := 158) rfl) rfl
theorem qm_X6_48 : Cond.methodLink RX6 48 yX6_ones ∈ TT := tt_4 (List.mem_of_getElem? (i := 159) rfl) rfl
theorem qt_X6_ones : Cond.static yX6_ones ∈ TT := tt_4 (List.mem_of_getElem? (i := 160) rfl) rfl
theorem qc_X6_ones : Cond.code yX6_ones cX6_ones 3 (some .int) ∈ TT := tt_4 (List.mem_of_getElem? (i := 161) rfl) rfl
theorem qm_X6_51 : Cond.methodLink RX6 51 yX6_add ∈ TT := tt_4 (List.mem_of_getElem? (i := 162) rfl) rfl
theorem qi_X6_add : Cond.instanceMethod yX6_add ∈ TT := tt_4 (List.mem_of_getElem? (i := 164) rfl) rfl
theorem qc_X6_add : Cond.code yX6_add cX6_add 4 none ∈ TT := tt_4 (List.mem_of_getElem? (i := 165) rfl) rfl
theorem qm_L_104 : Cond.methodLink RL 104 yX6_give ∈ TT := tt_4 (List.mem_of_getElem? (i := 166) rfl) rfl
theorem qi_X6_give : Cond.instanceMethod yX6_give ∈ TT := tt_4 (List.mem_of_getElem? (i := 167) rfl) rfl
theorem qs_X6_give : Cond.selects RX6 yX6_give yX6_give ∈ TT := tt_4 (List.mem_of_getElem? (i := 168) rfl) rfl
theorem qc_X6_give : Cond.code yX6_give cX6_give 5 (some .int) ∈ TT := tt_4 (List.mem_of_getElem? (i := 169) rfl) rfl
theorem qm_X6_85 : Cond.methodLink RX6 85 yX6_isSkill ∈ TT := tt_4 (List.mem_of_getElem? (i := 170) rfl) rfl
theorem qt_X6_isSkill : Cond.static yX6_isSkill ∈ TT := tt_4 (List.mem_of_getElem? (i := 171) rfl) rfl
theorem qc_X6_isSkill : Cond.code yX6_isSkill cX6_isSkill 1 (some .boolean) ∈ TT := tt_4 (List.mem_of_getElem? (i := 172) rfl) rfl
theorem qm_X6_88 : Cond.methodLink RX6 88 yX6_areMinutes ∈ TT := tt_4 (List.mem_of_getElem? (i := 173) rfl) rfl
theorem qt_X6_areMinutes : Cond.static yX6_areMinutes ∈ TT := tt_4 (List.mem_of_getElem? (i := 174) rfl) rfl
theorem qc_X6_areMinutes : Cond.code yX6_areMinutes cX6_areMinutes 1 (some .boolean) ∈ TT := tt_4 (List.mem_of_getElem? (i := 175) rfl) rfl
theorem qm_X6_91 : Cond.methodLink RX6 91 yX6_canDeal ∈ TT := tt_4 (List.mem_of_getElem? (i := 176) rfl) rfl
theorem qi_X6_canDeal : Cond.instanceMethod yX6_canDeal ∈ TT := tt_4 (List.mem_of_getElem? (i := 178) rfl) rfl
theorem qc_X6_canDeal : Cond.code yX6_canDeal cX6_canDeal 5 (some .boolean) ∈ TT := tt_4 (List.mem_of_getElem? (i := 179) rfl) rfl
theorem qm_X6_77 : Cond.methodLink RX6 77 yX6_valueOf ∈ TT := tt_4 (List.mem_of_getElem? (i := 180) rfl) rfl
theorem qi_X6_valueOf : Cond.instanceMethod yX6_valueOf ∈ TT := tt_4 (List.mem_of_getElem? (i := 182) rfl) rfl
theorem qc_X6_valueOf : Cond.code yX6_valueOf cX6_valueOf 4 (some .int) ∈ TT := tt_4 (List.mem_of_getElem? (i := 183) rfl) rfl
theorem qm_X6_74 : Cond.methodLink RX6 74 yX6_ripenessOf ∈ TT := tt_4 (List.mem_of_getElem? (i := 184) rfl) rfl
theorem qi_X6_ripenessOf : Cond.instanceMethod yX6_ripenessOf ∈ TT := tt_4 (List.mem_of_getElem? (i := 186) rfl) rfl
theorem qc_X6_ripenessOf : Cond.code yX6_ripenessOf cX6_ripenessOf 4 (some .int) ∈ TT := tt_4 (List.mem_of_getElem? (i := 187) rfl) rfl
theorem qm_X6_81 : Cond.methodLink RX6 81 yX6_canPay ∈ TT := tt_4 (List.mem_of_getElem? (i := 188) rfl) rfl
theorem qi_X6_canPay : Cond.instanceMethod yX6_canPay ∈ TT := tt_4 (List.mem_of_getElem? (i := 190) rfl) rfl
theorem qc_X6_canPay : Cond.code yX6_canPay cX6_canPay 3 (some .boolean) ∈ TT := tt_4 (List.mem_of_getElem? (i := 191) rfl) rfl
theorem qm_X6_95 : Cond.methodLink RX6 95 yX6_deals ∈ TT := tt_4 (List.mem_of_getElem? (i := 192) rfl) rfl
theorem qi_X6_deals : Cond.instanceMethod yX6_deals ∈ TT := tt_4 (List.mem_of_getElem? (i := 194) rfl) rfl
theorem qc_X6_deals : Cond.code yX6_deals cX6_deals 9 (some .int) ∈ TT := tt_4 (List.mem_of_getElem? (i := 195) rfl) rfl
theorem qm_L_108 : Cond.methodLink RL 108 yX6_donate ∈ TT := tt_4 (List.mem_of_getElem? (i := 196) rfl) rfl
theorem qi_X6_donate : Cond.instanceMethod yX6_donate ∈ TT := tt_4 (List.mem_of_getElem? (i := 197) rfl) rfl
theorem qs_X6_donate : Cond.selects RX6 yX6_donate yX6_donate ∈ TT := tt_4 (List.mem_of_getElem? (i := 198) rfl) rfl
theorem qc_X6_donate : Cond.code yX6_donate cX6_donate 3 (some .int) ∈ TT := tt_4 (List.mem_of_getElem? (i := 199) rfl) rfl
theorem qm_L_111 : Cond.methodLink RL 111 yX6_pass ∈ TT := tt_4 (List.mem_of_getElem? (i := 200) rfl) rfl
theorem qi_X6_pass : Cond.instanceMethod yX6_pass ∈ TT := tt_4 (List.mem_of_getElem? (i := 201) rfl) rfl
theorem qs_X6_pass : Cond.selects RX6 yX6_pass yX6_pass ∈ TT := tt_4 (List.mem_of_getElem? (i := 202) rfl) rfl
theorem qc_X6_pass : Cond.code yX6_pass cX6_pass 2 (some .int) ∈ TT := tt_4 (List.mem_of_getElem? (i := 203) rfl) rfl
theorem qm_X6_102 : Cond.methodLink RX6 102 yX6_passes ∈ TT := tt_4 (List.mem_of_getElem? (i := 204) rfl) rfl
theorem qi_X6_passes : Cond.instanceMethod yX6_passes ∈ TT := tt_4 (List.mem_of_getElem? (i := 206) rfl) rfl
theorem qc_X6_passes : Cond.code yX6_passes cX6_passes 6 (some .int) ∈ TT := tt_4 (List.mem_of_getElem? (i := 207) rfl) rfl
theorem qm_X6_99 : Cond.methodLink RX6 99 yX6_weekOf ∈ TT := tt_4 (List.mem_of_getElem? (i := 208) rfl) rfl
theorem qi_X6_weekOf : Cond.instanceMethod yX6_weekOf ∈ TT := tt_4 (List.mem_of_getElem? (i := 210) rfl) rfl
theorem qc_X6_weekOf : Cond.code yX6_weekOf cX6_weekOf 4 (some .int) ∈ TT := tt_4 (List.mem_of_getElem? (i := 211) rfl) rfl
theorem qm_L_114 : Cond.methodLink RL 114 yX6_set ∈ TT := tt_4 (List.mem_of_getElem? (i := 212) rfl) rfl
theorem qi_X6_set : Cond.instanceMethod yX6_set ∈ TT := tt_4 (List.mem_of_getElem? (i := 213) rfl) rfl
theorem qs_X6_set : Cond.selects RX6 yX6_set yX6_set ∈ TT := tt_4 (List.mem_of_getElem? (i := 214) rfl) rfl
theorem qc_X6_set : Cond.code yX6_set cX6_set 4 (some .int) ∈ TT := tt_4 (List.mem_of_getElem? (i := 215) rfl) rfl
theorem qm_X6_105 : Cond.methodLink RX6 105 yX6_isSetting ∈ TT := tt_4 (List.mem_of_getElem? (i := 216) rfl) rfl
theorem qt_X6_isSetting : Cond.static yX6_isSetting ∈ TT := tt_4 (List.mem_of_getElem? (i := 217) rfl) rfl
theorem qc_X6_isSetting : Cond.code yX6_isSetting cX6_isSetting 1 (some .boolean) ∈ TT := tt_4 (List.mem_of_getElem? (i := 218) rfl) rfl
theorem qm_X6_108 : Cond.methodLink RX6 108 yX6_greatest ∈ TT := tt_4 (List.mem_of_getElem? (i := 219) rfl) rfl
theorem qt_X6_greatest : Cond.static yX6_greatest ∈ TT := tt_4 (List.mem_of_getElem? (i := 220) rfl) rfl
theorem qc_X6_greatest : Cond.code yX6_greatest cX6_greatest 1 (some .int) ∈ TT := tt_4 (List.mem_of_getElem? (i := 221) rfl) rfl
theorem qm_L_117 : Cond.methodLink RL 117 yX6_move ∈ TT := tt_4 (List.mem_of_getElem? (i := 222) rfl) rfl
theorem qi_X6_move : Cond.instanceMethod yX6_move ∈ TT := tt_4 (List.mem_of_getElem? (i := 223) rfl) rfl
theorem qs_X6_move : Cond.selects RX6 yX6_move yX6_move ∈ TT := tt_4 (List.mem_of_getElem? (i := 224) rfl) rfl
theorem qc_X6_move : Cond.code yX6_move cX6_move 3 (some .int) ∈ TT := tt_4 (List.mem_of_getElem? (i := 225) rfl) rfl
theorem qm_X6_111 : Cond.methodLink RX6 111 yX6_canMove ∈ TT := tt_4 (List.mem_of_getElem? (i := 226) rfl) rfl
theorem qi_X6_canMove : Cond.instanceMethod yX6_canMove ∈ TT := tt_4 (List.mem_of_getElem? (i := 228) rfl) rfl
theorem qc_X6_canMove : Cond.code yX6_canMove cX6_canMove 3 (some .boolean) ∈ TT := tt_4 (List.mem_of_getElem? (i := 229) rfl) rfl
theorem qm_L_121 : Cond.methodLink RL 121 yX6_vote ∈ TT := tt_4 (List.mem_of_getElem? (i := 230) rfl) rfl
theorem qi_X6_vote : Cond.instanceMethod yX6_vote ∈ TT := tt_4 (List.mem_of_getElem? (i := 231) rfl) rfl
theorem qs_X6_vote : Cond.selects RX6 yX6_vote yX6_vote ∈ TT := tt_4 (List.mem_of_getElem? (i := 232) rfl) rfl
theorem qc_X6_vote : Cond.code yX6_vote cX6_vote 3 (some .int) ∈ TT := tt_4 (List.mem_of_getElem? (i := 233) rfl) rfl
theorem qm_X6_117 : Cond.methodLink RX6 117 yX6_canVote ∈ TT := tt_4 (List.mem_of_getElem? (i := 234) rfl) rfl
theorem qi_X6_canVote : Cond.instanceMethod yX6_canVote ∈ TT := tt_4 (List.mem_of_getElem? (i := 236) rfl) rfl
theorem qc_X6_canVote : Cond.code yX6_canVote cX6_canVote 2 (some .boolean) ∈ TT := tt_4 (List.mem_of_getElem? (i := 237) rfl) rfl
theorem qm_X6_114 : Cond.methodLink RX6 114 yX6_has ∈ TT := tt_4 (List.mem_of_getElem? (i := 238) rfl) rfl
theorem qt_X6_has : Cond.static yX6_has ∈ TT := tt_4 (List.mem_of_getElem? (i := 239) rfl) rfl
theorem qc_X6_has : Cond.code yX6_has cX6_has 2 (some .boolean) ∈ TT := tt_5 (List.mem_of_getElem? (i := 0) rfl) rfl
theorem qm_L_124 : Cond.methodLink RL 124 yX6_takeBack ∈ TT := tt_5 (List.mem_of_getElem? (i := 1) rfl) rfl
theorem qi_X6_takeBack : Cond.instanceMethod yX6_takeBack ∈ TT := tt_5 (List.mem_of_getElem? (i := 2) rfl) rfl
theorem qs_X6_takeBack : Cond.selects RX6 yX6_takeBack yX6_takeBack ∈ TT := tt_5 (List.mem_of_getElem? (i := 3) rfl) rfl
theorem qc_X6_takeBack : Cond.code yX6_takeBack cX6_takeBack 2 (some .int) ∈ TT := tt_5 (List.mem_of_getElem? (i := 4) rfl) rfl
theorem qm_L_127 : Cond.methodLink RL 127 yX6_append ∈ TT := tt_5 (List.mem_of_getElem? (i := 5) rfl) rfl
theorem qi_X6_append : Cond.instanceMethod yX6_append ∈ TT := tt_5 (List.mem_of_getElem? (i := 6) rfl) rfl
theorem qs_X6_append : Cond.selects RX6 yX6_append yX6_append ∈ TT := tt_5 (List.mem_of_getElem? (i := 7) rfl) rfl
theorem qc_X6_append : Cond.code yX6_append cX6_append 2 (some .int) ∈ TT := tt_5 (List.mem_of_getElem? (i := 8) rfl) rfl
theorem qm_L_131 : Cond.methodLink RL 131 yX6_clearBuffer ∈ TT := tt_5 (List.mem_of_getElem? (i := 9) rfl) rfl
theorem qi_X6_clearBuffer : Cond.instanceMethod yX6_clearBuffer ∈ TT := tt_5 (List.mem_of_getElem? (i := 10) rfl) rfl
theorem qs_X6_clearBuffer : Cond.selects RX6 yX6_clearBuffer yX6_clearBuffer ∈ TT := tt_5 (List.mem_of_getElem? (i := 11) rfl) rfl
theorem qc_X6_clearBuffer : Cond.code yX6_clearBuffer cX6_clearBuffer 2 (some .int) ∈ TT := tt_5 (List.mem_of_getElem? (i := 12) rfl) rfl
theorem qm_L_135 : Cond.methodLink RL 135 yX6_firstError ∈ TT := tt_5 (List.mem_of_getElem? (i := 13) rfl) rfl
theorem qi_X6_firstError : Cond.instanceMethod yX6_firstError ∈ TT := tt_5 (List.mem_of_getElem? (i := 14) rfl) rfl
theorem qs_X6_firstError : Cond.selects RX6 yX6_firstError yX6_firstError ∈ TT := tt_5 (List.mem_of_getElem? (i := 15) rfl) rfl
theorem qc_X6_firstError : Cond.code yX6_firstError cX6_firstError 1 (some .int) ∈ TT := tt_5 (List.mem_of_getElem? (i := 16) rfl) rfl
theorem qm_X6_141 : Cond.methodLink RX6 141 yX6_rightUpTo ∈ TT := tt_5 (List.mem_of_getElem? (i := 17) rfl) rfl
theorem qi_X6_rightUpTo : Cond.instanceMethod yX6_rightUpTo ∈ TT := tt_5 (List.mem_of_getElem? (i := 19) rfl) rfl
theorem qc_X6_rightUpTo : Cond.code yX6_rightUpTo cX6_rightUpTo 2 (some .int) ∈ TT := tt_5 (List.mem_of_getElem? (i := 20) rfl) rfl
theorem qm_X6_138 : Cond.methodLink RX6 138 yX6_takes ∈ TT := tt_5 (List.mem_of_getElem? (i := 21) rfl) rfl
theorem qi_X6_takes : Cond.instanceMethod yX6_takes ∈ TT := tt_5 (List.mem_of_getElem? (i := 23) rfl) rfl
theorem qc_X6_takes : Cond.code yX6_takes cX6_takes 2 (some .boolean) ∈ TT := tt_5 (List.mem_of_getElem? (i := 24) rfl) rfl
theorem qm_X6_132 : Cond.methodLink RX6 132 yX6_takesMember ∈ TT := tt_5 (List.mem_of_getElem? (i := 25) rfl) rfl
theorem qi_X6_takesMember : Cond.instanceMethod yX6_takesMember ∈ TT := tt_5 (List.mem_of_getElem? (i := 27) rfl) rfl
theorem qc_X6_takesMember : Cond.code yX6_takesMember cX6_takesMember 4 (some .boolean) ∈ TT := tt_5 (List.mem_of_getElem? (i := 28) rfl) rfl
theorem qm_X6_135 : Cond.methodLink RX6 135 yX6_takesDigit ∈ TT := tt_5 (List.mem_of_getElem? (i := 29) rfl) rfl
theorem qi_X6_takesDigit : Cond.instanceMethod yX6_takesDigit ∈ TT := tt_5 (List.mem_of_getElem? (i := 31) rfl) rfl
theorem qc_X6_takesDigit : Cond.code yX6_takesDigit cX6_takesDigit 4 (some .boolean) ∈ TT := tt_5 (List.mem_of_getElem? (i := 32) rfl) rfl
theorem qm_L_138 : Cond.methodLink RL 138 yX6_run ∈ TT := tt_5 (List.mem_of_getElem? (i := 33) rfl) rfl
theorem qi_X6_run : Cond.instanceMethod yX6_run ∈ TT := tt_5 (List.mem_of_getElem? (i := 34) rfl) rfl
theorem qs_X6_run : Cond.selects RX6 yX6_run yX6_run ∈ TT := tt_5 (List.mem_of_getElem? (i := 35) rfl) rfl
theorem qc_X6_run : Cond.code yX6_run cX6_run 3 (some .int) ∈ TT := tt_5 (List.mem_of_getElem? (i := 36) rfl) rfl
theorem qm_X6_144 : Cond.methodLink RX6 144 yX6_makes ∈ TT := tt_5 (List.mem_of_getElem? (i := 37) rfl) rfl
theorem qi_X6_makes : Cond.instanceMethod yX6_makes ∈ TT := tt_5 (List.mem_of_getElem? (i := 39) rfl) rfl
theorem qc_X6_makes : Cond.code yX6_makes cX6_makes 5 (some .boolean) ∈ TT := tt_5 (List.mem_of_getElem? (i := 40) rfl) rfl
theorem qm_L_141 : Cond.methodLink RL 141 yX6_undo ∈ TT := tt_5 (List.mem_of_getElem? (i := 41) rfl) rfl
theorem qi_X6_undo : Cond.instanceMethod yX6_undo ∈ TT := tt_5 (List.mem_of_getElem? (i := 42) rfl) rfl
theorem qs_X6_undo : Cond.selects RX6 yX6_undo yX6_undo ∈ TT := tt_5 (List.mem_of_getElem? (i := 43) rfl) rfl
theorem qc_X6_undo : Cond.code yX6_undo cX6_undo 2 (some .int) ∈ TT := tt_5 (List.mem_of_getElem? (i := 44) rfl) rfl
theorem qm_L_144 : Cond.methodLink RL 144 yX6_member ∈ TT := tt_5 (List.mem_of_getElem? (i := 45) rfl) rfl
theorem qi_X6_member : Cond.instanceMethod yX6_member ∈ TT := tt_5 (List.mem_of_getElem? (i := 46) rfl) rfl
theorem qs_X6_member : Cond.selects RX6 yX6_member yX6_member ∈ TT := tt_5 (List.mem_of_getElem? (i := 47) rfl) rfl
theorem qc_X6_member : Cond.code yX6_member cX6_member 3 (some .int) ∈ TT := tt_5 (List.mem_of_getElem? (i := 48) rfl) rfl
theorem qm_X6_147 : Cond.methodLink RX6 147 yX6_memberNow ∈ TT := tt_5 (List.mem_of_getElem? (i := 49) rfl) rfl
theorem qi_X6_memberNow : Cond.instanceMethod yX6_memberNow ∈ TT := tt_5 (List.mem_of_getElem? (i := 51) rfl) rfl
theorem qc_X6_memberNow : Cond.code yX6_memberNow cX6_memberNow 3 (some .int) ∈ TT := tt_5 (List.mem_of_getElem? (i := 52) rfl) rfl
theorem qm_L_148 : Cond.methodLink RL 148 yX6_skill ∈ TT := tt_5 (List.mem_of_getElem? (i := 53) rfl) rfl
theorem qi_X6_skill : Cond.instanceMethod yX6_skill ∈ TT := tt_5 (List.mem_of_getElem? (i := 54) rfl) rfl
theorem qs_X6_skill : Cond.selects RX6 yX6_skill yX6_skill ∈ TT := tt_5 (List.mem_of_getElem? (i := 55) rfl) rfl
theorem qc_X6_skill : Cond.code yX6_skill cX6_skill 4 (some .int) ∈ TT := tt_5 (List.mem_of_getElem? (i := 56) rfl) rfl
theorem qm_X6_150 : Cond.methodLink RX6 150 yX6_skillNow ∈ TT := tt_5 (List.mem_of_getElem? (i := 57) rfl) rfl
theorem qi_X6_skillNow : Cond.instanceMethod yX6_skillNow ∈ TT := tt_5 (List.mem_of_getElem? (i := 59) rfl) rfl
theorem qc_X6_skillNow : Cond.code yX6_skillNow cX6_skillNow 4 (some .int) ∈ TT := tt_5 (List.mem_of_getElem? (i := 60) rfl) rfl
theorem qm_L_151 : Cond.methodLink RL 151 yX6_count ∈ TT := tt_5 (List.mem_of_getElem? (i := 61) rfl) rfl
theorem qi_X6_count : Cond.instanceMethod yX6_count ∈ TT := tt_5 (List.mem_of_getElem? (i := 62) rfl) rfl
theorem qs_X6_count : Cond.selects RX6 yX6_count yX6_count ∈ TT := tt_5 (List.mem_of_getElem? (i := 63) rfl) rfl
theorem qc_X6_count : Cond.code yX6_count cX6_count 2 (some .int) ∈ TT := tt_5 (List.mem_of_getElem? (i := 64) rfl) rfl
theorem qm_X6_160 : Cond.methodLink RX6 160 yX6_counted ∈ TT := tt_5 (List.mem_of_getElem? (i := 65) rfl) rfl
theorem qi_X6_counted : Cond.instanceMethod yX6_counted ∈ TT := tt_5 (List.mem_of_getElem? (i := 67) rfl) rfl
theorem qc_X6_counted : Cond.code yX6_counted cX6_counted 2 (some .int) ∈ TT := tt_5 (List.mem_of_getElem? (i := 68) rfl) rfl
theorem qm_X6_153 : Cond.methodLink RX6 153 yX6_sumOfBalances ∈ TT := tt_5 (List.mem_of_getElem? (i := 69) rfl) rfl
theorem qi_X6_sumOfBalances : Cond.instanceMethod yX6_sumOfBalances ∈ TT := tt_5 (List.mem_of_getElem? (i := 71) rfl) rfl
theorem qc_X6_sumOfBalances : Cond.code yX6_sumOfBalances cX6_sumOfBalances 5 (some .int) ∈ TT := tt_5 (List.mem_of_getElem? (i := 72) rfl) rfl
theorem qm_X6_157 : Cond.methodLink RX6 157 yX6_sumOf ∈ TT := tt_5 (List.mem_of_getElem? (i := 73) rfl) rfl
theorem qi_X6_sumOf : Cond.instanceMethod yX6_sumOf ∈ TT := tt_5 (List.mem_of_getElem? (i := 75) rfl) rfl
theorem qc_X6_sumOf : Cond.code yX6_sumOf cX6_sumOf 4 (some .int) ∈ TT := tt_5 (List.mem_of_getElem? (i := 76) rfl) rfl
theorem qm_L_154 : Cond.methodLink RL 154 yX6_setting ∈ TT := tt_5 (List.mem_of_getElem? (i := 77) rfl) rfl
theorem qi_X6_setting : Cond.instanceMethod yX6_setting ∈ TT := tt_5 (List.mem_of_getElem? (i := 78) rfl) rfl
theorem qs_X6_setting : Cond.selects RX6 yX6_setting yX6_setting ∈ TT := tt_5 (List.mem_of_getElem? (i := 79) rfl) rfl
theorem qc_X6_setting : Cond.code yX6_setting cX6_setting 2 (some .int) ∈ TT := tt_5 (List.mem_of_getElem? (i := 80) rfl) rfl
theorem qm_L_157 : Cond.methodLink RL 157 yX6_worth ∈ TT := tt_5 (List.mem_of_getElem? (i := 81) rfl) rfl
theorem qi_X6_worth : Cond.instanceMethod yX6_worth ∈ TT := tt_5 (List.mem_of_getElem? (i := 82) rfl) rfl
theorem qs_X6_worth : Cond.selects RX6 yX6_worth yX6_worth ∈ TT := tt_5 (List.mem_of_getElem? (i := 83) rfl) rfl
theorem qc_X6_worth : Cond.code yX6_worth cX6_worth 4 (some .int) ∈ TT := tt_5 (List.mem_of_getElem? (i := 84) rfl) rfl
theorem qm_L_160 : Cond.methodLink RL 160 yX6_longest ∈ TT := tt_5 (List.mem_of_getElem? (i := 85) rfl) rfl
theorem qi_X6_longest : Cond.instanceMethod yX6_longest ∈ TT := tt_5 (List.mem_of_getElem? (i := 86) rfl) rfl
theorem qs_X6_longest : Cond.selects RX6 yX6_longest yX6_longest ∈ TT := tt_5 (List.mem_of_getElem? (i := 87) rfl) rfl
theorem qc_X6_longest : Cond.code yX6_longest cX6_longest 4 (some .int) ∈ TT := tt_5 (List.mem_of_getElem? (i := 88) rfl) rfl
theorem qm_X6_163 : Cond.methodLink RX6 163 yX6_longestNow ∈ TT := tt_5 (List.mem_of_getElem? (i := 89) rfl) rfl
theorem qi_X6_longestNow : Cond.instanceMethod yX6_longestNow ∈ TT := tt_5 (List.mem_of_getElem? (i := 91) rfl) rfl
theorem qc_X6_longestNow : Cond.code yX6_longestNow cX6_longestNow 5 (some .int) ∈ TT := tt_5 (List.mem_of_getElem? (i := 92) rfl) rfl
theorem qm_L_163 : Cond.methodLink RL 163 yX6_cheapest ∈ TT := tt_5 (List.mem_of_getElem? (i := 93) rfl) rfl
theorem qi_X6_cheapest : Cond.instanceMethod yX6_cheapest ∈ TT := tt_5 (List.mem_of_getElem? (i := 94) rfl) rfl
theorem qs_X6_cheapest : Cond.selects RX6 yX6_cheapest yX6_cheapest ∈ TT := tt_5 (List.mem_of_getElem? (i := 95) rfl) rfl
theorem qc_X6_cheapest : Cond.code yX6_cheapest cX6_cheapest 4 (some .int) ∈ TT := tt_5 (List.mem_of_getElem? (i := 96) rfl) rfl
theorem qm_X6_166 : Cond.methodLink RX6 166 yX6_cheapestNow ∈ TT := tt_5 (List.mem_of_getElem? (i := 97) rfl) rfl
theorem qi_X6_cheapestNow : Cond.instanceMethod yX6_cheapestNow ∈ TT := tt_5 (List.mem_of_getElem? (i := 99) rfl) rfl
theorem qc_X6_cheapestNow : Cond.code yX6_cheapestNow cX6_cheapestNow 7 (some .int) ∈ TT := tt_5 (List.mem_of_getElem? (i := 100) rfl) rfl
theorem qm_L_166 : Cond.methodLink RL 166 yX6_decayIn ∈ TT := tt_5 (List.mem_of_getElem? (i := 101) rfl) rfl
theorem qi_X6_decayIn : Cond.instanceMethod yX6_decayIn ∈ TT := tt_5 (List.mem_of_getElem? (i := 102) rfl) rfl
theorem qs_X6_decayIn : Cond.selects RX6 yX6_decayIn yX6_decayIn ∈ TT := tt_5 (List.mem_of_getElem? (i := 103) rfl) rfl
theorem qc_X6_decayIn : Cond.code yX6_decayIn cX6_decayIn 3 (some .int) ∈ TT := tt_5 (List.mem_of_getElem? (i := 104) rfl) rfl
theorem qm_X6_169 : Cond.methodLink RX6 169 yX6_decaysThen ∈ TT := tt_5 (List.mem_of_getElem? (i := 105) rfl) rfl
theorem qi_X6_decaysThen : Cond.instanceMethod yX6_decaysThen ∈ TT := tt_5 (List.mem_of_getElem? (i := 107) rfl) rfl
theorem qc_X6_decaysThen : Cond.code yX6_decaysThen cX6_decaysThen 7 (some .int) ∈ TT := tt_5 (List.mem_of_getElem? (i := 108) rfl) rfl
theorem qm_L_170 : Cond.methodLink RL 170 yX6_votesNeeded ∈ TT := tt_5 (List.mem_of_getElem? (i := 109) rfl) rfl
theorem qi_X6_votesNeeded : Cond.instanceMethod yX6_votesNeeded ∈ TT := tt_5 (List.mem_of_getElem? (i := 110) rfl) rfl
theorem qs_X6_votesNeeded : Cond.selects RX6 yX6_votesNeeded yX6_votesNeeded ∈ TT := tt_5 (List.mem_of_getElem? (i := 111) rfl) rfl
theorem qc_X6_votesNeeded : Cond.code yX6_votesNeeded cX6_votesNeeded 1 (some .int) ∈ TT := tt_5 (List.mem_of_getElem? (i := 112) rfl) rfl
theorem qm_X6_172 : Cond.methodLink RX6 172 yX6_needed ∈ TT := tt_5 (List.mem_of_getElem? (i := 113) rfl) rfl
theorem qi_X6_needed : Cond.instanceMethod yX6_needed ∈ TT := tt_5 (List.mem_of_getElem? (i := 115) rfl) rfl
theorem qc_X6_needed : Cond.code yX6_needed cX6_needed 1 (some .int) ∈ TT := tt_5 (List.mem_of_getElem? (i := 116) rfl) rfl
theorem qm_L_173 : Cond.methodLink RL 173 yX6_ripest ∈ TT := tt_5 (List.mem_of_getElem? (i := 117) rfl) rfl
theorem qi_X6_ripest : Cond.instanceMethod yX6_ripest ∈ TT := tt_5 (List.mem_of_getElem? (i := 118) rfl) rfl
theorem qs_X6_ripest : Cond.selects RX6 yX6_ripest yX6_ripest ∈ TT := tt_5 (List.mem_of_getElem? (i := 119) rfl) rfl
theorem qc_X6_ripest : Cond.code yX6_ripest cX6_ripest 2 (some .int) ∈ TT := tt_5 (List.mem_of_getElem? (i := 120) rfl) rfl
theorem qm_X6_175 : Cond.methodLink RX6 175 yX6_ripestNow ∈ TT := tt_5 (List.mem_of_getElem? (i := 121) rfl) rfl
theorem qi_X6_ripestNow : Cond.instanceMethod yX6_ripestNow ∈ TT := tt_5 (List.mem_of_getElem? (i := 123) rfl) rfl
theorem qc_X6_ripestNow : Cond.code yX6_ripestNow cX6_ripestNow 5 (some .int) ∈ TT := tt_5 (List.mem_of_getElem? (i := 124) rfl) rfl
theorem qm_L_178 : Cond.methodLink RL 178 yX6_minuteWorth ∈ TT := tt_5 (List.mem_of_getElem? (i := 125) rfl) rfl
theorem qi_X6_minuteWorth : Cond.instanceMethod yX6_minuteWorth ∈ TT := tt_5 (List.mem_of_getElem? (i := 126) rfl) rfl
theorem qs_X6_minuteWorth : Cond.selects RX6 yX6_minuteWorth yX6_minuteWorth ∈ TT := tt_5 (List.mem_of_getElem? (i := 127) rfl) rfl
theorem qc_X6_minuteWorth : Cond.code yX6_minuteWorth cX6_minuteWorth 1 (some .double) ∈ TT := tt_5 (List.mem_of_getElem? (i := 128) rfl) rfl
theorem qm_X6_178 : Cond.methodLink RX6 178 yX6_meanWorth ∈ TT := tt_5 (List.mem_of_getElem? (i := 129) rfl) rfl
theorem qi_X6_meanWorth : Cond.instanceMethod yX6_meanWorth ∈ TT := tt_5 (List.mem_of_getElem? (i := 131) rfl) rfl
theorem qc_X6_meanWorth : Cond.code yX6_meanWorth cX6_meanWorth 2 (some .double) ∈ TT := tt_5 (List.mem_of_getElem? (i := 132) rfl) rfl
theorem qm_L_183 : Cond.methodLink RL 183 yX6_digest ∈ TT := tt_5 (List.mem_of_getElem? (i := 133) rfl) rfl
theorem qi_X6_digest : Cond.instanceMethod yX6_digest ∈ TT := tt_5 (List.mem_of_getElem? (i := 134) rfl) rfl
theorem qs_X6_digest : Cond.selects RX6 yX6_digest yX6_digest ∈ TT := tt_5 (List.mem_of_getElem? (i := 135) rfl) rfl
theorem qc_X6_digest : Cond.code yX6_digest cX6_digest 2 (some .long) ∈ TT := tt_5 (List.mem_of_getElem? (i := 136) rfl) rfl
theorem ql_X6_192 : Cond.constantLong RX6 192 (2539) ∈ TT := tt_5 (List.mem_of_getElem? (i := 137) rfl) rfl
theorem qm_X6_188 : Cond.methodLink RX6 188 yX6_mix ∈ TT := tt_5 (List.mem_of_getElem? (i := 138) rfl) rfl
theorem qi_X6_mix : Cond.instanceMethod yX6_mix ∈ TT := tt_5 (List.mem_of_getElem? (i := 140) rfl) rfl
theorem qc_X6_mix : Cond.code yX6_mix cX6_mix 3 none ∈ TT := tt_5 (List.mem_of_getElem? (i := 141) rfl) rfl
theorem ql_X6_182 : Cond.constantLong RX6 182 (31) ∈ TT := tt_5 (List.mem_of_getElem? (i := 142) rfl) rfl
theorem qm_X6_194 : Cond.methodLink RX6 194 yX6_mixMember ∈ TT := tt_5 (List.mem_of_getElem? (i := 143) rfl) rfl
theorem qi_X6_mixMember : Cond.instanceMethod yX6_mixMember ∈ TT := tt_5 (List.mem_of_getElem? (i := 145) rfl) rfl
theorem qc_X6_mixMember : Cond.code yX6_mixMember cX6_mixMember 3 none ∈ TT := tt_5 (List.mem_of_getElem? (i := 146) rfl) rfl
theorem qm_X6_198 : Cond.methodLink RX6 198 yJxe99ae_doubleToLongBits_ccdee ∈ TT := tt_5 (List.mem_of_getElem? (i := 147) rfl) rfl
theorem qt_Jxe99ae_doubleToLongBits_ccdee : Cond.static yJxe99ae_doubleToLongBits_ccdee ∈ TT := tt_5 (List.mem_of_getElem? (i := 148) rfl) rfl
theorem qc_Jxe99ae_doubleToLongBits_ccdee : Cond.code yJxe99ae_doubleToLongBits_ccdee cJxe99ae_doubleToLongBits_ccdee 2 (some .long) ∈ TT := tt_5 (List.mem_of_getElem? (i := 149) rfl) rfl
theorem qm_Jxe99ae_122 : Cond.methodLink "java/lang/Double" 122 yJxe99ae_isNaN_b9ae7 ∈ TT := tt_5 (List.mem_of_getElem? (i := 150) rfl) rfl
theorem qt_Jxe99ae_isNaN_b9ae7 : Cond.static yJxe99ae_isNaN_b9ae7 ∈ TT := tt_5 (List.mem_of_getElem? (i := 151) rfl) rfl
theorem qc_Jxe99ae_isNaN_b9ae7 : Cond.code yJxe99ae_isNaN_b9ae7 cJxe99ae_isNaN_b9ae7 2 (some .boolean) ∈ TT := tt_5 (List.mem_of_getElem? (i := 152) rfl) rfl
theorem ql_Jxe99ae_137 : Cond.constantLong "java/lang/Double" 137 (9221120237041090560) ∈ TT := tt_5 (List.mem_of_getElem? (i := 156) rfl) rfl
theorem qr_long : Cond.arrayClass .long ∈ TT := tt_5 (List.mem_of_getElem? (i := 157) rfl) rfl
theorem qs_X5_number : Cond.selects RX5 yX5_number yX5_number ∈ TT := tt_p (List.mem_of_getElem? (i := 0) rfl) rfl
theorem qs_X5_mixedMember : Cond.selects RX5 yX5_mixedMember yX5_mixedMember ∈ TT := tt_p (List.mem_of_getElem? (i := 1) rfl) rfl
theorem qs_X5_mixedText : Cond.selects RX5 yX5_mixedText yX5_mixedText ∈ TT := tt_p (List.mem_of_getElem? (i := 2) rfl) rfl
theorem qs_X6_save : Cond.selects RX6 yX6_save yX6_save ∈ TT := tt_p (List.mem_of_getElem? (i := 4) rfl) rfl
theorem qs_X6_put : Cond.selects RX6 yX6_put yX6_put ∈ TT := tt_p (List.mem_of_getElem? (i := 5) rfl) rfl
theorem qs_X6_isMember : Cond.selects RX6 yX6_isMember yX6_isMember ∈ TT := tt_p (List.mem_of_getElem? (i := 6) rfl) rfl
theorem qs_X6_isThere : Cond.selects RX6 yX6_isThere yX6_isThere ∈ TT := tt_p (List.mem_of_getElem? (i := 7) rfl) rfl
theorem qs_X6_of : Cond.selects RX6 yX6_of yX6_of ∈ TT := tt_p (List.mem_of_getElem? (i := 8) rfl) rfl
theorem qs_X6_endMotion : Cond.selects RX6 yX6_endMotion yX6_endMotion ∈ TT := tt_p (List.mem_of_getElem? (i := 9) rfl) rfl
theorem qs_X6_lookAt : Cond.selects RX6 yX6_lookAt yX6_lookAt ∈ TT := tt_p (List.mem_of_getElem? (i := 10) rfl) rfl
theorem qs_X6_othersOf : Cond.selects RX6 yX6_othersOf yX6_othersOf ∈ TT := tt_p (List.mem_of_getElem? (i := 11) rfl) rfl
theorem qs_X6_allThere : Cond.selects RX6 yX6_allThere yX6_allThere ∈ TT := tt_p (List.mem_of_getElem? (i := 12) rfl) rfl
theorem qs_X6_add : Cond.selects RX6 yX6_add yX6_add ∈ TT := tt_p (List.mem_of_getElem? (i := 13) rfl) rfl
theorem qs_X6_canDeal : Cond.selects RX6 yX6_canDeal yX6_canDeal ∈ TT := tt_p (List.mem_of_getElem? (i := 14) rfl) rfl
theorem qs_X6_valueOf : Cond.selects RX6 yX6_valueOf yX6_valueOf ∈ TT := tt_p (List.mem_of_getElem? (i := 15) rfl) rfl
theorem qs_X6_ripenessOf : Cond.selects RX6 yX6_ripenessOf yX6_ripenessOf ∈ TT := tt_p (List.mem_of_getElem? (i := 16) rfl) rfl
theorem qs_X6_canPay : Cond.selects RX6 yX6_canPay yX6_canPay ∈ TT := tt_p (List.mem_of_getElem? (i := 17) rfl) rfl
theorem qs_X6_deals : Cond.selects RX6 yX6_deals yX6_deals ∈ TT := tt_p (List.mem_of_getElem? (i := 18) rfl) rfl
theorem qs_X6_passes : Cond.selects RX6 yX6_passes yX6_passes ∈ TT := tt_p (List.mem_of_getElem? (i := 19) rfl) rfl
theorem qs_X6_weekOf : Cond.selects RX6 yX6_weekOf yX6_weekOf ∈ TT := tt_p (List.mem_of_getElem? (i := 20) rfl) rfl
theorem qs_X6_canMove : Cond.selects RX6 yX6_canMove yX6_canMove ∈ TT := tt_p (List.mem_of_getElem? (i := 21) rfl) rfl
theorem qs_X6_canVote : Cond.selects RX6 yX6_canVote yX6_canVote ∈ TT := tt_p (List.mem_of_getElem? (i := 22) rfl) rfl
theorem qs_X6_rightUpTo : Cond.selects RX6 yX6_rightUpTo yX6_rightUpTo ∈ TT := tt_p (List.mem_of_getElem? (i := 23) rfl) rfl
theorem qs_X6_takes : Cond.selects RX6 yX6_takes yX6_takes ∈ TT := tt_p (List.mem_of_getElem? (i := 24) rfl) rfl
theorem qs_X6_takesMember : Cond.selects RX6 yX6_takesMember yX6_takesMember ∈ TT := tt_p (List.mem_of_getElem? (i := 25) rfl) rfl
theorem qs_X6_takesDigit : Cond.selects RX6 yX6_takesDigit yX6_takesDigit ∈ TT := tt_p (List.mem_of_getElem? (i := 26) rfl) rfl
theorem qs_X6_makes : Cond.selects RX6 yX6_makes yX6_makes ∈ TT := tt_p (List.mem_of_getElem? (i := 27) rfl) rfl
theorem qs_X6_memberNow : Cond.selects RX6 yX6_memberNow yX6_memberNow ∈ TT := tt_p (List.mem_of_getElem? (i := 28) rfl) rfl
theorem qs_X6_skillNow : Cond.selects RX6 yX6_skillNow yX6_skillNow ∈ TT := tt_p (List.mem_of_getElem? (i := 29) rfl) rfl
theorem qs_X6_counted : Cond.selects RX6 yX6_counted yX6_counted ∈ TT := tt_p (List.mem_of_getElem? (i := 30) rfl) rfl
theorem qs_X6_sumOfBalances : Cond.selects RX6 yX6_sumOfBalances yX6_sumOfBalances ∈ TT := tt_p (List.mem_of_getElem? (i := 31) rfl) rfl
theorem qs_X6_sumOf : Cond.selects RX6 yX6_sumOf yX6_sumOf ∈ TT := tt_p (List.mem_of_getElem? (i := 32) rfl) rfl
theorem qs_X6_longestNow : Cond.selects RX6 yX6_longestNow yX6_longestNow ∈ TT := tt_p (List.mem_of_getElem? (i := 33) rfl) rfl
theorem qs_X6_cheapestNow : Cond.selects RX6 yX6_cheapestNow yX6_cheapestNow ∈ TT := tt_p (List.mem_of_getElem? (i := 34) rfl) rfl
theorem qs_X6_decaysThen : Cond.selects RX6 yX6_decaysThen yX6_decaysThen ∈ TT := tt_p (List.mem_of_getElem? (i := 35) rfl) rfl
theorem qs_X6_needed : Cond.selects RX6 yX6_needed yX6_needed ∈ TT := tt_p (List.mem_of_getElem? (i := 36) rfl) rfl
theorem qs_X6_ripestNow : Cond.selects RX6 yX6_ripestNow yX6_ripestNow ∈ TT := tt_p (List.mem_of_getElem? (i := 37) rfl) rfl
theorem qs_X6_meanWorth : Cond.selects RX6 yX6_meanWorth yX6_meanWorth ∈ TT := tt_p (List.mem_of_getElem? (i := 38) rfl) rfl
theorem qs_X6_mix : Cond.selects RX6 yX6_mix yX6_mix ∈ TT := tt_p (List.mem_of_getElem? (i := 39) rfl) rfl
theorem qs_X6_mixMember : Cond.selects RX6 yX6_mixMember yX6_mixMember ∈ TT := tt_p (List.mem_of_getElem? (i := 40) rfl) rfl
theorem inTX0 : ∀ w ∈ wsX00, w ∈ TT := List.forall_mem_cons.mpr ⟨qy_X0_members, List.forall_mem_cons.mpr ⟨qy_X0_settings, List.forall_mem_cons.mpr ⟨qy_X0_came, List.forall_mem_cons.mpr ⟨qy_X0_common, List.forall_mem_cons.mpr ⟨qy_X0_forgiven, List.forall_mem_cons.mpr ⟨qy_X0_week, List.forall_mem_cons.mpr ⟨qy_X0_deals, List.forall_mem_cons.mpr ⟨qy_X0_debtor, List.forall_mem_cons.mpr ⟨qy_X0_motionMinutes, fun _ h => absurd h List.not_mem_nil⟩⟩⟩⟩⟩⟩⟩⟩⟩
theorem inTX1 : ∀ w ∈ wsX10, w ∈ TT := List.forall_mem_cons.mpr ⟨qy_X1_place, List.forall_mem_cons.mpr ⟨qy_X1_giver, List.forall_mem_cons.mpr ⟨qy_X1_taker, List.forall_mem_cons.mpr ⟨qy_X1_skill, List.forall_mem_cons.mpr ⟨qy_X1_minutes, fun _ h => absurd h List.not_mem_nil⟩⟩⟩⟩⟩
theorem inTX2 : ∀ w ∈ wsX20, w ∈ TT := List.forall_mem_cons.mpr ⟨qy_X2_signs, List.forall_mem_cons.mpr ⟨qy_X2_reader, List.forall_mem_cons.mpr ⟨qy_X2_size, fun _ h => absurd h List.not_mem_nil⟩⟩⟩
theorem inTX3 : ∀ w ∈ wsX30, w ∈ TT := List.forall_mem_cons.mpr ⟨qy_X3_states, List.forall_mem_cons.mpr ⟨qy_X3_next, List.forall_mem_cons.mpr ⟨qy_X3_kept, fun _ h => absurd h List.not_mem_nil⟩⟩⟩
theorem inTX4 : ∀ w ∈ wsX40, w ∈ TT := List.forall_mem_cons.mpr ⟨qy_X4_practice, List.forall_mem_cons.mpr ⟨qy_X4_isThere, List.forall_mem_cons.mpr ⟨qy_X4_isBusy, List.forall_mem_cons.mpr ⟨qy_X4_balance, List.forall_mem_cons.mpr ⟨qy_X4_loan, List.forall_mem_cons.mpr ⟨qy_X4_idleWeeks, List.forall_mem_cons.mpr ⟨qy_X4_minutesGiven, List.forall_mem_cons.mpr ⟨qy_X4_minutesTaken, List.forall_mem_cons.mpr ⟨qy_X4_earned, List.forall_mem_cons.mpr ⟨qy_X4_paid, List.forall_mem_cons.mpr ⟨qy_X4_decayed, List.forall_mem_cons.mpr ⟨qy_X4_forgiven, List.forall_mem_cons.mpr ⟨qy_X4_ballot, fun _ h => absurd h List.not_mem_nil⟩⟩⟩⟩⟩⟩⟩⟩⟩⟩⟩⟩⟩
theorem inTX5 : ∀ w ∈ wsX50, w ∈ TT := List.forall_mem_cons.mpr ⟨qy_X5_bank, List.forall_mem_cons.mpr ⟨qy_X5_history, List.forall_mem_cons.mpr ⟨qy_X5_text, fun _ h => absurd h List.not_mem_nil⟩⟩⟩
theorem inTX6 : ∀ w ∈ wsX60, w ∈ TT := List.forall_mem_cons.mpr ⟨qy_X6_z, List.forall_mem_cons.mpr ⟨qy_X6_states, List.forall_mem_cons.mpr ⟨qy_X6_history, List.forall_mem_cons.mpr ⟨qy_X6_length, List.forall_mem_cons.mpr ⟨qy_X6_text, List.forall_mem_cons.mpr ⟨qy_X6_thrown, List.forall_mem_cons.mpr ⟨qy_X6_parts, List.forall_mem_cons.mpr ⟨qy_X6_read, List.forall_mem_cons.mpr ⟨qy_X6_number, List.forall_mem_cons.mpr ⟨qy_X6_due, List.forall_mem_cons.mpr ⟨qy_X6_kept, List.forall_mem_cons.mpr ⟨qy_X6_hash, fun _ h => absurd h List.not_mem_nil⟩⟩⟩⟩⟩⟩⟩⟩⟩⟩⟩⟩
end
section
/-! The judgement of this claim: one contract form, 'from the world w and the arguments as: the answer rv and the world w2'. Every contract speaks of the WHOLE world at hand (its own cells ahead, any rest behind), so no call cuts anything out. -/
theorem z_goodIn {ws : List Cond} (h : ∀ w ∈ ws, w ∈ TT) : GoodIn TT ws := fun w hw => ⟨h w hw, good_of_word (tt_good (h w hw))⟩
abbrev zY (y : MethodName) (cy : ByteArray) (mL : Nat) (rt : Option FieldType) : List Cond := Cond.code y cy mL rt :: TT
/-- links of a private member of a nest mate: no words of the tables that a contract may ask, so the state carries them -/
def zNest (U : State) : Prop := va_Nw (.fieldLinkNest RX0 22 "RipeHours" "FIRST_SETTINGS" "[I" "RipeHours") U ∧ va_Nw (.methodLinkNest RX1 39 yX5_isWithin "RipeHours") U ∧ va_Nw (.methodLinkNest RX1 49 yX5_isSkill "RipeHours") U ∧ va_Nw (.methodLinkNest RX1 55 yX5_isDealMinutes "RipeHours") U ∧ va_Nw (.methodLinkNest RX0 140 yX5_decayingPart "RipeHours") U
theorem zNest_warm {s U : State} (hW : s.WarmedH U.vm) (h : zNest s) : zNest U := by
  obtain ⟨h0, h1, h2, h3, h4⟩ := h
  exact ⟨va_Nw.warmF hW h0, va_Nw.warmM hW h1, va_Nw.warmM hW h2, va_Nw.warmM hW h3, va_Nw.warmM hW h4⟩
theorem zNest_same {s U : State} (hv : s.vm = U.vm) (h : zNest s) : zNest U := by
  obtain ⟨h0, h1, h2, h3, h4⟩ := h
  exact ⟨va_Nw.same rfl hv h0, va_Nw.same rfl hv h1, va_Nw.same rfl hv h2, va_Nw.same rfl hv h3, va_Nw.same rfl hv h4⟩
def zW (D : va_G) (T : List (ClassId × FieldType)) (w : va_W) (sz : Nat) (U : State) : Prop := U.heap.size = sz ∧ va_P D vwCl w U.heap ∧ va_K D vwCl T U ∧ va_D (fun _ => True) w ∧ zNest U
def zE (D : va_G) (T : List (ClassId × FieldType)) (w : va_W) (A : Nat → Prop) (t : State) : Prop := va_P D vwCl w t.heap ∧ va_K D vwCl T t ∧ va_D A w
def zQ (D : va_G) (T : List (ClassId × FieldType)) (w : va_W) (rv : Option Value) (A : Nat → Prop) : Array Value → State → Outcome → State → Prop := fun _ st oc t => (oc = .returned rv ∧ zE D T w A t) ∧ va_F A st t
def zM (l : Launch) (D : va_G) (T : List (ClassId × FieldType)) (y : MethodName) (cy : ByteArray) (mL : Nat) (rt : Option FieldType) (rm : Room) (as : List Value) (w w2 : va_W) (rv : Option Value) (mc ms : Nat) : Prop :=
  ∀ sz, Met l y (zY y cy mL rt) rm (va_Pc as (zW D T w sz)) (zQ D T w2 rv (va_A w sz)) mc ms (va_A w sz)
theorem zW_blind {D : va_G} {T : List (ClassId × FieldType)} {w : va_W} {sz : Nat} {as : List Value} : FrameBlind (va_Pc as (zW D T w sz)) := fun a U g mk q => by
  obtain ⟨q0, q1, qP, qK, qD, qN⟩ := q
  exact ⟨q0, q1, qP, va_K.moved (u := U) (U := U.calling g mk a) (Vm.Alike.refl U.vm) qK, qD, zNest_same (s := U) (U := U.calling g mk a) rfl qN⟩
theorem z_enter {l : Launch} {D : va_G} {T : List (ClassId × FieldType)} {y : MethodName} {cy : ByteArray} {mL : Nat} {rt : Option FieldType} {rm : Room} {as : List Value} {w w2 : va_W} {rv : Option Value} {mc ms : Nat} (hy : plainName y.cls = true) (hn : (lg_sl as).length ≤ mL)
    (body : ∀ (p : Program) (e : Env) (s : State) (m : MethodId) (below : List Frame) (meth : Method) (c : Code) (A : Nat → Prop), CallFix p m c cy mL s as.toArray TT y.cls → meth.sig.returnType = rt → meth.locks = false → meth.name = y.name → zNest s → (∀ q : Nat, s.heap.size ≤ q → A q) → va_K D vwCl T s → va_P D vwCl w s.heap → va_D A w → va_S A s.heap s.heap [] → ∀ ls : Array Slot, lv_has ls mL (lv_args 0 as) → W p l e rm s m as.toArray below meth c s.heap [] 0 0 (MQ below (zQ D T w2 rv A) as.toArray s mc ms A) (F0 m 0 ls [])) : zM l D T y cy mL rt rm as w w2 rv mc ms := by
  intro sz
  refine Met.ofW (cc := cy) (maxL := mL) (ret := rt) hy rfl ?_
  intro p e s m args below meth c s₁ B hml hv
  obtain ⟨rfl, hsz, hP, hK, hD0, hN⟩ := hv
  subst hsz
  have hts := atoms_spec (ws := zY y cy mL rt) B.pre
  have hD := hD0.self (sz := s.heap.size)
  have hl := lv_entry as (n := mL) hn
  rw [lg_entry_eq]
  exact body p e s m below meth c (va_A w s.heap.size) ⟨B.exec, B.bytes, hml, findClass_of_methodNamed B.named, fun w h => hts w (List.mem_cons_of_mem _ h)⟩ B.returns B.notSynchronized (name_of_methodNamed B.named B.method).1 hN (fun q h => Or.inr h) hK hP hD va_S.rf _ hl
section ZC
variable {p : Program} {l : Launch} {e : Env} {R : Room} {s : State} {m : MethodId} {args : Array Value} {below : List Frame} {meth : Method} {c : Code} {H : Heap} {locs : List Loc} {cells slots : Nat} {Q : State → Prop}
variable {pc : Nat} {ls : Array Slot} {rest st0 : List Value} {A : Nat → Prop} {mc ms : Nat} {D : va_G} {T : List (ClassId × FieldType)} {cc : ByteArray} {nL index n : Nat} {own : String}
/-- the callee's words: an instance method of the class C; a static one; a constructor -/
def zV (y : MethodName) (C : String) (cy : ByteArray) (mL : Nat) (rt : Option FieldType) (n : Nat) : Prop := (Cond.instanceMethod y ∈ TT ∧ Cond.selects C y y ∈ TT ∧ Cond.initialized C ∈ TT ∧ Cond.code y cy mL rt ∈ TT) ∧ y.cls = C ∧ y.cls ≠ "java/lang/invoke/MethodHandle" ∧ y.cls ≠ "java/lang/invoke/VarHandle" ∧ (parseMethodDescriptor y.desc).map (fun d => d.parameters.length) = some n
def zSt (y : MethodName) (cy : ByteArray) (mL : Nat) (rt : Option FieldType) (n : Nat) : Prop := (Cond.static y ∈ TT ∧ Cond.initialized y.cls ∈ TT ∧ Cond.code y cy mL rt ∈ TT) ∧ y.cls ≠ "java/lang/invoke/MethodHandle" ∧ y.cls ≠ "java/lang/invoke/VarHandle" ∧ (parseMethodDescriptor y.desc).map (fun d => d.parameters.length) = some n
def zN (y : MethodName) (cy : ByteArray) (mL : Nat) (n : Nat) : Prop := (Cond.instanceMethod y ∈ TT ∧ Cond.initialized y.cls ∈ TT ∧ Cond.code y cy mL none ∈ TT) ∧ y.name = "<init>" ∧ y.cls ≠ "java/lang/invoke/MethodHandle" ∧ y.cls ≠ "java/lang/invoke/VarHandle" ∧ (parseMethodDescriptor y.desc).map (fun d => d.parameters.length) = some n
theorem z_go {w2 : va_W} {rv : Option Value} {A1 : Nat → Prop} {a : Array Value} {free : Addr → Prop} (hr : va_Run p l e R s m args below meth c H locs cells slots mc ms (F0 m pc ls st0) rest (zQ D T w2 rv A1 a) free) (hS : va_S A s.heap H locs) (hA : ∀ q, A1 q → A q) (hf : ∀ q, free q → A q)
    (kk : ∀ (H1 : Heap) (locs1 : List Loc), va_P D vwCl w2 H1 → va_D A w2 → va_S A s.heap H1 locs1 → W p l e R s m args below meth c H1 locs1 (cells + mc) (slots + ms) Q (F0 m (pc + 3) ls (rv.toList ++ rest))) : W p l e R s m args below meth c H locs cells slots Q (F0 m pc ls st0) := by
  intro U hU X
  obtain ⟨v, st₀, t, T', L, h0, X', hL, e1, e2, ⟨⟨hv, hP, hK, hD⟩, hz, hk⟩, st⟩ := hr U hU X
  cases hv
  rw [h0] at hz hk
  obtain ⟨t2, a1, b1⟩ := kk T'.heap (locs ++ L) (by rw [e1]; exact hP) (hD.weaken (fun _ _ _ h => hA _ h))
    ⟨Nat.le_trans hS.1 (by rw [e1]; exact hz), fun q h1 h2 => by rw [e1, hk q (Nat.lt_of_lt_of_le h1 hS.1) (fun z => h2 (hA q z))]; exact hS.2.1 q h1 h2, fun q hq => by
      rcases List.mem_append.mp hq with h | h
      · exact hS.2.2 q h
      · exact hf _ (hL q h)⟩ T' rfl X'
  exact ⟨t2, st t2 a1, b1⟩
theorem z_sub {w : va_W} (hD : va_D A w) (hS : va_S A s.heap H locs) (hA : ∀ q : Nat, s.heap.size ≤ q → A q) : ∀ q, va_A w H.size q → A q := fun q h => by
  rcases h with ⟨k, e, h⟩ | h
  · exact hD.2 k (q, e) h
  · exact hA q (Nat.le_trans hS.1 h)
theorem z_pre {w : va_W} {as : List Value} (hN : zNest s) (hK : va_K D vwCl T s) (hP : va_P D vwCl w H) (hD : va_D A w) : ∀ U : State, U.heap = H → s.WarmedH U.vm → va_Pc as (zW D T w H.size) as.toArray U := fun U hU hW => ⟨rfl, by rw [hU], by rw [hU]; exact hP, va_K.moved hW.alike hK, hD.weaken (fun _ _ _ _ => trivial), zNest_warm hW hN⟩
variable {y : MethodName} {C : String} {cy : ByteArray} {mL : Nat} {rt : Option FieldType} {rm : Room} {b : Nat} {As : List Value} {w w2 : va_W} {rv : Option Value}
theorem z_callV (S : CallFix p m c cc nL s args TT own) (hM : zM l D T y cy mL rt rm (.ref b :: As) w w2 rv mc ms) (hl : Cond.methodLink own index y ∈ TT) (hy : zV y C cy mL rt n) (hR : rm.frames + 1 ≤ R.frames ∧ 8 + (mL + 11) + rm.locals ≤ R.locals) (hrc : rm.cells = mc) (hrs : rm.slots = ms) (hN : zNest s)
    (hK : va_K D vwCl T s) (hP : va_P D vwCl w H) (hD : va_D A w) (hS : va_S A s.heap H locs) (hA : ∀ q : Nat, s.heap.size ≤ q → A q) (q0 : Nat) {ci : Nat} {fs : List Value} {T1 : u_T} {N1 : Nat} (he : w[q0]? = some (b, .inr (ci, fs))) (hc : vwCl[ci]? = some (C, T1, N1))
    (hn : As.length = n) (hls : ls.size = nL) (hst : st0 = As.reverse ++ .ref b :: rest) (hW : (rest.map fun v => v.category).sum ≤ 8) (hdg : decode cc pc = .ok (.invokevirtual index, 3)) (hf : cells + mc ≤ R.cells ∧ slots + ms ≤ R.slots)
    (kk : ∀ (H1 : Heap) (locs1 : List Loc), va_P D vwCl w2 H1 → va_D A w2 → va_S A s.heap H1 locs1 → W p l e R s m args below meth c H1 locs1 (cells + mc) (slots + ms) Q (F0 m (pc + 3) ls (rv.toList ++ rest))) : W p l e R s m args below meth c H locs cells slots Q (F0 m pc ls st0) := by
  obtain ⟨⟨y1, y2, y3, y4⟩, hd⟩ := hy
  refine z_go (va_runV S (hM H.size) (cwV n S.2.2.2.2 (z_goodIn (fun w h => ?_)) rfl hrc hrs hd hR) ⟨zW_blind, va_recv hK hP hc he, z_pre hN hK hP hD⟩ rfl hn hls hst (lv_room hW) hdg hf) hS (z_sub hD hS hA) (z_sub hD hS hA) kk
  simp only [wsV, zY, List.mem_append, List.mem_cons, List.not_mem_nil, or_false] at h
  rcases h with (rfl | rfl | rfl | rfl) | rfl | h
  · exact hl
  · exact y1
  · exact y2
  · exact y3
  · exact y4
  · exact h
theorem z_callS (S : CallFix p m c cc nL s args TT own) (hM : zM l D T y cy mL rt rm As w w2 rv mc ms) (hl : Cond.methodLink own index y ∈ TT) (hy : zSt y cy mL rt n) (hR : rm.frames + 1 ≤ R.frames ∧ 8 + (mL + 11) + rm.locals ≤ R.locals) (hrc : rm.cells = mc) (hrs : rm.slots = ms) (hN : zNest s)
    (hK : va_K D vwCl T s) (hP : va_P D vwCl w H) (hD : va_D A w) (hS : va_S A s.heap H locs) (hA : ∀ q : Nat, s.heap.size ≤ q → A q)
    (hn : As.length = n) (hls : ls.size = nL) (hst : st0 = As.reverse ++ rest) (hW : (rest.map fun v => v.category).sum ≤ 8) (hdg : decode cc pc = .ok (.invokestatic index, 3)) (hf : cells + mc ≤ R.cells ∧ slots + ms ≤ R.slots)
    (kk : ∀ (H1 : Heap) (locs1 : List Loc), va_P D vwCl w2 H1 → va_D A w2 → va_S A s.heap H1 locs1 → W p l e R s m args below meth c H1 locs1 (cells + mc) (slots + ms) Q (F0 m (pc + 3) ls (rv.toList ++ rest))) : W p l e R s m args below meth c H locs cells slots Q (F0 m pc ls st0) := by
  obtain ⟨⟨y1, y2, y3⟩, hd⟩ := hy
  refine z_go (va_runS S (hM H.size) (va_cwS n S.2.2.2.2 (z_goodIn (fun w h => ?_)) rfl hrc hrs hd hR) ⟨zW_blind, z_pre hN hK hP hD⟩ rfl hn hls hst (lv_room hW) hdg hf) hS (z_sub hD hS hA) (z_sub hD hS hA) kk
  simp only [va_wsS, zY, List.mem_append, List.mem_cons, List.not_mem_nil, or_false] at h
  rcases h with (rfl | rfl | rfl) | rfl | h
  · exact hl
  · exact y1
  · exact y2
  · exact y3
  · exact h
theorem z_callI (S : CallFix p m c cc nL s args TT own) (hM : zM l D T y cy mL none rm (.ref b :: As) w w2 none mc ms) (hl : Cond.methodLink own index y ∈ TT) (hy : zN y cy mL n) (hR : rm.frames + 1 ≤ R.frames ∧ 8 + (mL + 11) + rm.locals ≤ R.locals) (hrc : rm.cells = mc) (hrs : rm.slots = ms) (hN : zNest s)
    (hK : va_K D vwCl T s) (hP : va_P D vwCl w H) (hD : va_D A w) (hS : va_S A s.heap H locs) (hA : ∀ q : Nat, s.heap.size ≤ q → A q)
    (hn : As.length = n) (hls : ls.size = nL) (hst : st0 = As.reverse ++ .ref b :: rest) (hW : (rest.map fun v => v.category).sum ≤ 8) (hdg : decode cc pc = .ok (.invokespecial index, 3)) (hf : cells + mc ≤ R.cells ∧ slots + ms ≤ R.slots)
    (kk : ∀ (H1 : Heap) (locs1 : List Loc), va_P D vwCl w2 H1 → va_D A w2 → va_S A s.heap H1 locs1 → W p l e R s m args below meth c H1 locs1 (cells + mc) (slots + ms) Q (F0 m (pc + 3) ls rest)) : W p l e R s m args below meth c H locs cells slots Q (F0 m pc ls st0) := by
  obtain ⟨⟨y1, y2, y3⟩, hy1, hd⟩ := hy
  refine z_go (rv := none) (va_runI S (hM H.size) (cwI n S.2.2.2.2 (z_goodIn (fun w h => ?_)) rfl hrc hrs (S.2.2.2.2 _ y2) (S.2.2.2.2 _ hl) (S.2.2.2.2 _ y1) hy1 hd hR) ⟨zW_blind, z_pre hN hK hP hD⟩ rfl hn hls hst (lv_room hW) hdg hf) hS (z_sub hD hS hA) (z_sub hD hS hA) kk
  rcases List.mem_cons.mp h with rfl | h
  · exact y3
  · exact h
theorem z_callV1 {v : Value} (S : CallFix p m c cc nL s args TT own) (hM : zM l D T y cy mL rt rm (.ref b :: As) w w2 (some v) mc ms) (hl : Cond.methodLink own index y ∈ TT) (hy : zV y C cy mL rt n) (hR : rm.frames + 1 ≤ R.frames ∧ 8 + (mL + 11) + rm.locals ≤ R.locals) (hrc : rm.cells = mc) (hrs : rm.slots = ms) (hN : zNest s)
    (hK : va_K D vwCl T s) (hP : va_P D vwCl w H) (hD : va_D A w) (hS : va_S A s.heap H locs) (hA : ∀ q : Nat, s.heap.size ≤ q → A q) (q0 : Nat) {ci : Nat} {fs : List Value} {T1 : u_T} {N1 : Nat} (he : w[q0]? = some (b, .inr (ci, fs))) (hc : vwCl[ci]? = some (C, T1, N1))
    (hn : As.length = n) (hls : ls.size = nL) (hst : st0 = As.reverse ++ .ref b :: rest) (hW : (rest.map fun v => v.category).sum ≤ 8) (hdg : decode cc pc = .ok (.invokevirtual index, 3)) (hf : cells + mc ≤ R.cells ∧ slots + ms ≤ R.slots)
    (kk : ∀ (H1 : Heap) (locs1 : List Loc), va_P D vwCl w2 H1 → va_D A w2 → va_S A s.heap H1 locs1 → W p l e R s m args below meth c H1 locs1 (cells + mc) (slots + ms) Q (F0 m (pc + 3) ls (v :: rest))) : W p l e R s m args below meth c H locs cells slots Q (F0 m pc ls st0) :=
  z_callV S hM hl hy hR hrc hrs hN hK hP hD hS hA q0 he hc hn hls hst hW hdg hf kk
theorem z_callV0 (S : CallFix p m c cc nL s args TT own) (hM : zM l D T y cy mL rt rm (.ref b :: As) w w2 none mc ms) (hl : Cond.methodLink own index y ∈ TT) (hy : zV y C cy mL rt n) (hR : rm.frames + 1 ≤ R.frames ∧ 8 + (mL + 11) + rm.locals ≤ R.locals) (hrc : rm.cells = mc) (hrs : rm.slots = ms) (hN : zNest s)
    (hK : va_K D vwCl T s) (hP : va_P D vwCl w H) (hD : va_D A w) (hS : va_S A s.heap H locs) (hA : ∀ q : Nat, s.heap.size ≤ q → A q) (q0 : Nat) {ci : Nat} {fs : List Value} {T1 : u_T} {N1 : Nat} (he : w[q0]? = some (b, .inr (ci, fs))) (hc : vwCl[ci]? = some (C, T1, N1))
    (hn : As.length = n) (hls : ls.size = nL) (hst : st0 = As.reverse ++ .ref b :: rest) (hW : (rest.map fun v => v.category).sum ≤ 8) (hdg : decode cc pc = .ok (.invokevirtual index, 3)) (hf : cells + mc ≤ R.cells ∧ slots + ms ≤ R.slots)
    (kk : ∀ (H1 : Heap) (locs1 : List Loc), va_P D vwCl w2 H1 → va_D A w2 → va_S A s.heap H1 locs1 → W p l e R s m args below meth c H1 locs1 (cells + mc) (slots + ms) Q (F0 m (pc + 3) ls rest)) : W p l e R s m args below meth c H locs cells slots Q (F0 m pc ls st0) :=
  z_callV S hM hl hy hR hrc hrs hN hK hP hD hS hA q0 he hc hn hls hst hW hdg hf kk
theorem z_callS1 {v : Value} (S : CallFix p m c cc nL s args TT own) (hM : zM l D T y cy mL rt rm As w w2 (some v) mc ms) (hl : Cond.methodLink own index y ∈ TT) (hy : zSt y cy mL rt n) (hR : rm.frames + 1 ≤ R.frames ∧ 8 + (mL + 11) + rm.locals ≤ R.locals) (hrc : rm.cells = mc) (hrs : rm.slots = ms) (hN : zNest s)
    (hK : va_K D vwCl T s) (hP : va_P D vwCl w H) (hD : va_D A w) (hS : va_S A s.heap H locs) (hA : ∀ q : Nat, s.heap.size ≤ q → A q)
    (hn : As.length = n) (hls : ls.size = nL) (hst : st0 = As.reverse ++ rest) (hW : (rest.map fun v => v.category).sum ≤ 8) (hdg : decode cc pc = .ok (.invokestatic index, 3)) (hf : cells + mc ≤ R.cells ∧ slots + ms ≤ R.slots)
    (kk : ∀ (H1 : Heap) (locs1 : List Loc), va_P D vwCl w2 H1 → va_D A w2 → va_S A s.heap H1 locs1 → W p l e R s m args below meth c H1 locs1 (cells + mc) (slots + ms) Q (F0 m (pc + 3) ls (v :: rest))) : W p l e R s m args below meth c H locs cells slots Q (F0 m pc ls st0) :=
  z_callS S hM hl hy hR hrc hrs hN hK hP hD hS hA hn hls hst hW hdg hf kk
theorem z_callSN1 {v : Value} {host : String} (S : CallFix p m c cc nL s args TT own) (hM : zM l D T y cy mL rt rm As w w2 (some v) mc ms) (hl : va_Nw (.methodLinkNest own index y host) s) (hy : zSt y cy mL rt n) (hR : rm.frames + 1 ≤ R.frames ∧ 8 + (mL + 11) + rm.locals ≤ R.locals) (hrc : rm.cells = mc) (hrs : rm.slots = ms) (hN : zNest s)
    (hK : va_K D vwCl T s) (hP : va_P D vwCl w H) (hD : va_D A w) (hS : va_S A s.heap H locs) (hA : ∀ q : Nat, s.heap.size ≤ q → A q)
    (hn : As.length = n) (hls : ls.size = nL) (hst : st0 = As.reverse ++ rest) (hW : (rest.map fun v => v.category).sum ≤ 8) (hdg : decode cc pc = .ok (.invokestatic index, 3)) (hf : cells + mc ≤ R.cells ∧ slots + ms ≤ R.slots)
    (kk : ∀ (H1 : Heap) (locs1 : List Loc), va_P D vwCl w2 H1 → va_D A w2 → va_S A s.heap H1 locs1 → W p l e R s m args below meth c H1 locs1 (cells + mc) (slots + ms) Q (F0 m (pc + 3) ls (v :: rest))) : W p l e R s m args below meth c H locs cells slots Q (F0 m pc ls st0) := by
  obtain ⟨⟨y1, y2, y3⟩, hd⟩ := hy
  refine z_go (va_runSN S (hM H.size) ⟨va_cnB n S.2.2.2.2 (z_goodIn (fun w h => ?_)) rfl hrc hrs hl (S.2.2.2.2 _ y2) hd hR, S.2.2.2.2 _ y1, trivial⟩ ⟨zW_blind, z_pre hN hK hP hD⟩ rfl hn hls hst (lv_room hW) hdg hf) hS (z_sub hD hS hA) (z_sub hD hS hA) kk
  rcases List.mem_cons.mp h with rfl | h
  · exact y3
  · exact h
/-- a write, and the world under another name -/
theorem z_put (hexec : p.tables.exec = Jvm.exec) (hb : c.code = cc) {ref C : String} {a : Nat} {ws ws2 : va_W} {cl : List vw_C} {tys : List (ClassId × FieldType)} {H0 : Heap} {Tf : u_T} {N ci : Nat} {Ts : List Cond} (hts : ∀ w ∈ Ts, w.before args s = true) (hin : ∀ w ∈ u_ws C Tf N, w ∈ Ts) (ty0 : Nat → FieldType) (hty : ∀ k, k < N → parseFieldDescriptor (Tf k).2.2.1 = some (ty0 k)) (hnm : ∀ a, a < N → ∀ b, b < N → a ≠ b → (Tf a).2.1 ≠ (Tf b).2.1) (hown : s.vm.findClass own = some m.cls) (hK : va_K D cl tys s) (hP : va_P D cl ws H) (hD : va_D A ws) (hS0 : va_S A H0 H locs) (q0 : Nat) {fs : List Value} (he : ws[q0]? = some (a, .inr (ci, fs))) (hc : cl[ci]? = some (C, Tf, N)) (k : Nat) (hk : k < N) (hlink : (Cond.fieldLink own index ref (Tf k).2.1 (Tf k).2.2.1).before args s = true) (hsame : ∀ x, s.fieldFound? (Tf k).1 (Tf k).2.1 (Tf k).2.2.1 = some x → s.fieldFound? ref (Tf k).2.1 (Tf k).2.2.1 = some x) (hfin : (Tf k).2.2.2 = false) {ty : FieldType} {v : Value} (hd : parseFieldDescriptor (Tf k).2.2.1 = some ty) (hn : narrow ty v = v) (hfit : fits ty v = true) (hl : k < fs.length)
    (hdg : decode cc pc = .ok (.putfield index, 3)) (hws : ws.set q0 (a, .inr (ci, fs.set k v)) = ws2) (kk : ∀ (H1 : Heap) (locs1 : List Loc), va_P D cl ws2 H1 → va_D A ws2 → va_S A H0 H1 locs1 → W p l e R s m args below meth c H1 locs1 cells slots Q (F0 m (pc + 3) ls rest)) : W p l e R s m args below meth c H locs cells slots Q (F0 m pc ls (v :: .ref a :: rest)) := by
  subst hws
  exact va_put hexec hb hts hin ty0 hty hnm hown hK hP hD hS0 q0 he hc k hk hlink hsame hfin hd hn hfit hl hdg kk
theorem z_iast (hexec : p.tables.exec = Jvm.exec) (hb : c.code = cc) {a : Nat} {ws ws2 : va_W} {cl : List vw_C} {tys : List (ClassId × FieldType)} {H0 : Heap} (hK : va_K D cl tys s) (hP : va_P D cl ws H) (hD : va_D A ws) (hS : va_S A H0 H locs) (q0 t0 : Nat) {cA : ClassId} {n : Nat} {f : Nat → Int32} (ha : ws[q0]? = some (a, .inl (cA, n, .inl f))) (ht : tys[t0]? = some (cA, .int)) {i : Int32} {x : Int32} (hin : vp_in i n) (hdg : decode cc pc = .ok (.iastore, 1)) (hws : ws.set q0 (a, .inl (cA, n, .inl (upd f i.toNatClampNeg x))) = ws2)
    (kk : ∀ (H1 : Heap) (locs1 : List Loc), va_P D cl ws2 H1 → va_D A ws2 → va_S A H0 H1 locs1 → W p l e R s m args below meth c H1 locs1 cells slots Q (F0 m (pc + 1) ls rest)) : W p l e R s m args below meth c H locs cells slots Q (F0 m pc ls (.int x :: .int i :: .ref a :: rest)) := by
  subst hws
  exact va_iast hexec hb hK hP hD hS q0 t0 ha ht hin hdg kk
theorem z_cast (hexec : p.tables.exec = Jvm.exec) (hb : c.code = cc) {a : Nat} {ws ws2 : va_W} {cl : List vw_C} {tys : List (ClassId × FieldType)} {H0 : Heap} (hK : va_K D cl tys s) (hP : va_P D cl ws H) (hD : va_D A ws) (hS : va_S A H0 H locs) (q0 t0 : Nat) {cA : ClassId} {n : Nat} {f : Nat → Int32} (ha : ws[q0]? = some (a, .inl (cA, n, .inl f))) (ht : tys[t0]? = some (cA, .char)) {i : Int32} {x : Int32} (hin : vp_in i n) (hdg : decode cc pc = .ok (.castore, 1)) (hws : ws.set q0 (a, .inl (cA, n, .inl (upd f i.toNatClampNeg (vp_nar .char x)))) = ws2)
    (kk : ∀ (H1 : Heap) (locs1 : List Loc), va_P D cl ws2 H1 → va_D A ws2 → va_S A H0 H1 locs1 → W p l e R s m args below meth c H1 locs1 cells slots Q (F0 m (pc + 1) ls rest)) : W p l e R s m args below meth c H locs cells slots Q (F0 m pc ls (.int x :: .int i :: .ref a :: rest)) := by
  subst hws
  exact va_cast hexec hb hK hP hD hS q0 t0 ha ht hin hdg kk
/-- the ends -/
theorem z_ends {w1 : va_W} (hP : va_P D vwCl w1 H) (hD : va_D A w1) (hK : va_K D vwCl T s) (hS : va_S A s.heap H locs) (hw : w1 = w2) {v : Option Value} (hv : v = rv) {a : Array Value} : ∀ t : State, t.heap = H → s.WarmedH t.vm → zQ D T w2 rv A a s (.returned v) t := fun t ht hW => by
  subst hw; subst hv
  exact ⟨⟨rfl, by rw [ht]; exact hP, va_K.moved hW.alike hK, hD⟩, hS.F ht⟩
theorem z_iret {v : Int32} {w1 : va_W} (hexec : p.tables.exec = Jvm.exec) (hb : c.code = cc) (hr : meth.sig.returnType = some .int) (hlocks : meth.locks = false) (hP : va_P D vwCl w1 H) (hD : va_D A w1) (hK : va_K D vwCl T s) (hS : va_S A s.heap H locs) (hw : w1 = w2) (hv : some (.int v) = rv) (hdg : decode cc pc = .ok (.ireturn, 1)) : W p l e R s m args below meth c H locs cells slots (MQ below (zQ D T w2 rv A) args s cells slots A) (F0 m pc ls [.int v]) :=
  W.iret hexec hb hr (z_ends hP hD hK hS hw hv) hS.2.2 hdg hlocks
theorem z_zret {v : Int32} {w1 : va_W} (hexec : p.tables.exec = Jvm.exec) (hb : c.code = cc) (hr : meth.sig.returnType = some .boolean) (hlocks : meth.locks = false) (hP : va_P D vwCl w1 H) (hD : va_D A w1) (hK : va_K D vwCl T s) (hS : va_S A s.heap H locs) (hw : w1 = w2) (hv : some (.int v) = rv) (hnr : narrow .boolean (.int v) = .int v) (hdg : decode cc pc = .ok (.ireturn, 1)) : W p l e R s m args below meth c H locs cells slots (MQ below (zQ D T w2 rv A) args s cells slots A) (F0 m pc ls [.int v]) :=
  W.zret hexec hb hr hnr (z_ends hP hD hK hS hw hv) hS.2.2 hdg hlocks
theorem z_vret {w1 : va_W} (hexec : p.tables.exec = Jvm.exec) (hb : c.code = cc) (hr : meth.sig.returnType = none) (hlocks : meth.locks = false) (hP : va_P D vwCl w1 H) (hD : va_D A w1) (hK : va_K D vwCl T s) (hS : va_S A s.heap H locs) (hw : w1 = w2) (hv : none = rv) (hdg : decode cc pc = .ok (.return_, 1)) : W p l e R s m args below meth c H locs cells slots (MQ below (zQ D T w2 rv A) args s cells slots A) (F0 m pc ls []) :=
  W.vret hexec hb hr (z_ends hP hD hK hS hw hv) hS.2.2 hdg hlocks
theorem z_lret {v : Int64} {w1 : va_W} (hexec : p.tables.exec = Jvm.exec) (hb : c.code = cc) (hr : meth.sig.returnType = some .long) (hlocks : meth.locks = false) (hP : va_P D vwCl w1 H) (hD : va_D A w1) (hK : va_K D vwCl T s) (hS : va_S A s.heap H locs) (hw : w1 = w2) (hv : some (.long v) = rv) (hdg : decode cc pc = .ok (.lreturn, 1)) : W p l e R s m args below meth c H locs cells slots (MQ below (zQ D T w2 rv A) args s cells slots A) (F0 m pc ls [.long v]) :=
  W.lret hexec hb hr (z_ends hP hD hK hS hw hv) hS.2.2 hdg hlocks
theorem z_dret {v : UInt64} {w1 : va_W} (hexec : p.tables.exec = Jvm.exec) (hb : c.code = cc) (hr : meth.sig.returnType = some .double) (hlocks : meth.locks = false) (hP : va_P D vwCl w1 H) (hD : va_D A w1) (hK : va_K D vwCl T s) (hS : va_S A s.heap H locs) (hw : w1 = w2) (hv : some (.double v) = rv) (hdg : decode cc pc = .ok (.dreturn, 1)) : W p l e R s m args below meth c H locs cells slots (MQ below (zQ D T w2 rv A) args s cells slots A) (F0 m pc ls [.double v]) :=
  W.dret hexec hb hr (z_ends hP hD hK hS hw hv) hS.2.2 hdg hlocks
end ZC
end
section
/-! The state of a bank: ONE row z of numbers, in the order of the reference's own row (settings 0..4, came 5, common 6, forgiven 7, week 8, deals 9, debtor 10, motion minutes 11, member j's numbers from 14+16j on: there, balance, loan, idle, busy, given, taken, earned, paid, decayed, forgiven, five practices); a member's ballot stands at 142+j. A bank in the heap: nineteen cells at the addresses ad 0 .. ad 18. -/
def mfs (ad : Nat → Nat) (z : Nat → Int32) (j : Nat) : List Value := [.ref (ad (11 + j)), .int (z (14 + 16 * j)), .int (z (14 + 16 * j + 4)), .int (z (14 + 16 * j + 1)), .int (z (14 + 16 * j + 2)), .int (z (14 + 16 * j + 3)), .int (z (14 + 16 * j + 5)), .int (z (14 + 16 * j + 6)), .int (z (14 + 16 * j + 7)), .int (z (14 + 16 * j + 8)), .int (z (14 + 16 * j + 9)), .int (z (14 + 16 * j + 10)), .int (z (142 + j))]
def bfs (ad : Nat → Nat) (z : Nat → Int32) : List Value := [.ref (ad 1), .ref (ad 2), .int (z 5), .int (z 6), .int (z 7), .int (z 8), .int (z 9), .int (z 10), .int (z 11)]
def sfn (z : Nat → Int32) : Nat → Int32 := fun k => if k < 5 then z k else 0
def pfn (z : Nat → Int32) (j : Nat) : Nat → Int32 := fun k => if k < 5 then z (25 + 16 * j + k) else 0
def bkM (ad : Nat → Nat) (z : Nat → Int32) (j : Nat) : Nat × va_E := (ad (3 + j), .inr (4, mfs ad z j))
def bkP (cI : ClassId) (ad : Nat → Nat) (z : Nat → Int32) (j : Nat) : Nat × va_E := (ad (11 + j), .inl (cI, 5, .inl (pfn z j)))
def bkL (c0 c1 c2 : Nat × va_E) (f g : Nat → Nat × va_E) (wr : va_W) : va_W := c0 :: c1 :: c2 :: f 0 :: f 1 :: f 2 :: f 3 :: f 4 :: f 5 :: f 6 :: f 7 :: g 0 :: g 1 :: g 2 :: g 3 :: g 4 :: g 5 :: g 6 :: g 7 :: wr
/-- a bank, and the rest of the world behind it -/
def bkW (cI cM : ClassId) (ad : Nat → Nat) (z : Nat → Int32) (wr : va_W) : va_W := bkL (ad 0, .inr (0, bfs ad z)) (ad 1, .inl (cM, 8, .inr (.inr (.inr (.inr (fun i => some (ad (3 + i)))))))) (ad 2, .inl (cI, 5, .inl (sfn z))) (bkM ad z) (bkP cI ad z) wr
section BK
variable {cI cM : ClassId} {ad : Nat → Nat} {z z2 : Nat → Int32} {wr : va_W} {j k : Nat}
theorem lt8 {P : Nat → Prop} (h0 : P 0) (h1 : P 1) (h2 : P 2) (h3 : P 3) (h4 : P 4) (h5 : P 5) (h6 : P 6) (h7 : P 7) {j : Nat} (hj : j < 8) : P j := by
  match j, hj with
  | 0, _ => exact h0
  | 1, _ => exact h1
  | 2, _ => exact h2
  | 3, _ => exact h3
  | 4, _ => exact h4
  | 5, _ => exact h5
  | 6, _ => exact h6
  | 7, _ => exact h7
theorem bk_0 : (bkW cI cM ad z wr)[0]? = some (ad 0, .inr (0, bfs ad z)) := rfl
theorem bk_1 : (bkW cI cM ad z wr)[1]? = some (ad 1, .inl (cM, 8, .inr (.inr (.inr (.inr (fun i => some (ad (3 + i)))))))) := rfl
theorem bk_2 : (bkW cI cM ad z wr)[2]? = some (ad 2, .inl (cI, 5, .inl (sfn z))) := rfl
theorem bk_m (hj : j < 8) : (bkW cI cM ad z wr)[3 + j]? = some (ad (3 + j), .inr (4, mfs ad z j)) :=
  lt8 (P := fun j => (bkW cI cM ad z wr)[3 + j]? = some (ad (3 + j), .inr (4, mfs ad z j))) rfl rfl rfl rfl rfl rfl rfl rfl hj
theorem bk_p (hj : j < 8) : (bkW cI cM ad z wr)[11 + j]? = some (ad (11 + j), .inl (cI, 5, .inl (pfn z j))) :=
  lt8 (P := fun j => (bkW cI cM ad z wr)[11 + j]? = some (ad (11 + j), .inl (cI, 5, .inl (pfn z j)))) rfl rfl rfl rfl rfl rfl rfl rfl hj
theorem bk_r : (bkW cI cM ad z wr)[19 + k]? = wr[k]? := by
  rw [show 19 + k = k + 1 + 1 + 1 + 1 + 1 + 1 + 1 + 1 + 1 + 1 + 1 + 1 + 1 + 1 + 1 + 1 + 1 + 1 + 1 by omega]
  simp only [bkW, bkL, List.getElem?_cons_succ]
theorem bkL_congr {c0 c1 c2 d0 d1 d2 : Nat × va_E} {f g f2 g2 : Nat → Nat × va_E} (h0 : c0 = d0) (h1 : c1 = d1) (h2 : c2 = d2) (hf : ∀ i, i < 8 → f i = f2 i) (hg : ∀ i, i < 8 → g i = g2 i) : bkL c0 c1 c2 f g wr = bkL d0 d1 d2 f2 g2 wr := by
  subst h0; subst h1; subst h2
  simp only [bkL]
  rw [hf 0 (by omega), hf 1 (by omega), hf 2 (by omega), hf 3 (by omega), hf 4 (by omega), hf 5 (by omega), hf 6 (by omega), hf 7 (by omega), hg 0 (by omega), hg 1 (by omega), hg 2 (by omega), hg 3 (by omega), hg 4 (by omega), hg 5 (by omega), hg 6 (by omega), hg 7 (by omega)]
theorem bkL_setm {c0 c1 c2 x : Nat × va_E} {f g : Nat → Nat × va_E} (hj : j < 8) : (bkL c0 c1 c2 f g wr).set (3 + j) x = bkL c0 c1 c2 (fun i => if i = j then x else f i) g wr :=
  lt8 (P := fun j => (bkL c0 c1 c2 f g wr).set (3 + j) x = bkL c0 c1 c2 (fun i => if i = j then x else f i) g wr) rfl rfl rfl rfl rfl rfl rfl rfl hj
theorem bkL_setp {c0 c1 c2 x : Nat × va_E} {f g : Nat → Nat × va_E} (hj : j < 8) : (bkL c0 c1 c2 f g wr).set (11 + j) x = bkL c0 c1 c2 f (fun i => if i = j then x else g i) wr :=
  lt8 (P := fun j => (bkL c0 c1 c2 f g wr).set (11 + j) x = bkL c0 c1 c2 f (fun i => if i = j then x else g i) wr) rfl rfl rfl rfl rfl rfl rfl rfl hj
theorem bfs_congr (h : ∀ k, 5 ≤ k → k < 12 → z k = z2 k) : bfs ad z = bfs ad z2 := by
  simp only [bfs, h 5 (by omega) (by omega), h 6 (by omega) (by omega), h 7 (by omega) (by omega), h 8 (by omega) (by omega), h 9 (by omega) (by omega), h 10 (by omega) (by omega), h 11 (by omega) (by omega)]
theorem sfn_congr (h : ∀ k, k < 5 → z k = z2 k) : sfn z = sfn z2 := by
  funext k
  simp only [sfn]
  split
  · exact h k (by assumption)
  · rfl
theorem pfn_congr (h : ∀ k, k < 5 → z (25 + 16 * j + k) = z2 (25 + 16 * j + k)) : pfn z j = pfn z2 j := by
  funext k
  simp only [pfn]
  split
  · exact h k (by assumption)
  · rfl
theorem mfs_congr (h : ∀ k, k < 11 → z (14 + 16 * j + k) = z2 (14 + 16 * j + k)) (hb : z (142 + j) = z2 (142 + j)) : mfs ad z j = mfs ad z2 j := by
  have h0 : z (14 + 16 * j) = z2 (14 + 16 * j) := h 0 (by omega)
  simp only [mfs, h0, hb, h 1 (by omega), h 2 (by omega), h 3 (by omega), h 4 (by omega), h 5 (by omega), h 6 (by omega), h 7 (by omega), h 8 (by omega), h 9 (by omega), h 10 (by omega)]
/-- a bank reads its row at 0..11, 14..141 and 142..149 alone -/
theorem bkW_congr (h : ∀ k, k < 150 → k ≠ 12 → k ≠ 13 → z k = z2 k) : bkW cI cM ad z wr = bkW cI cM ad z2 wr := by
  refine bkL_congr ?_ rfl ?_ (fun i hi => ?_) (fun i hi => ?_)
  · rw [bfs_congr (z2 := z2) (fun k h1 h2 => h k (by omega) (by omega) (by omega))]
  · rw [sfn_congr (z2 := z2) (fun k h1 => h k (by omega) (by omega) (by omega))]
  · simp only [bkM]
    rw [mfs_congr (z2 := z2) (fun k h1 => h _ (by omega) (by omega) (by omega)) (h _ (by omega) (by omega) (by omega))]
  · simp only [bkP]
    rw [pfn_congr (z2 := z2) (fun k h1 => h _ (by omega) (by omega) (by omega))]
theorem upd_eq {f : Nat → Int32} {a b : Nat} {x : Int32} (h : b = a) : upd f a x b = x := by subst h; exact if_pos rfl
theorem upd_ne {f : Nat → Int32} {a b : Nat} {x : Int32} (h : b ≠ a) : upd f a x b = f b := if_neg h
/-- a bank's own number -/
theorem bk_w0 {i : Nat} {v : Int32} (fs : List Value) (hi : 5 ≤ i) (hi2 : i < 12) (hfs : fs = bfs ad (upd z i v)) : (bkW cI cM ad z wr).set 0 (ad 0, .inr (0, fs)) = bkW cI cM ad (upd z i v) wr := by
  subst hfs
  refine bkL_congr rfl rfl ?_ (fun q hq => ?_) (fun q hq => ?_)
  · rw [sfn_congr (z2 := upd z i v) (fun k h1 => (upd_ne (by omega)).symm)]
  · simp only [bkM]
    rw [mfs_congr (z2 := upd z i v) (fun k h1 => (upd_ne (by omega)).symm) (upd_ne (by omega)).symm]
  · simp only [bkP]
    rw [pfn_congr (z2 := upd z i v) (fun k h1 => (upd_ne (by omega)).symm)]
/-- a setting -/
theorem bk_w2 {i : Nat} {v : Int32} (hi : i < 5) : (bkW cI cM ad z wr).set 2 (ad 2, .inl (cI, 5, .inl (upd (sfn z) i v))) = bkW cI cM ad (upd z i v) wr := by
  refine bkL_congr ?_ rfl ?_ (fun q hq => ?_) (fun q hq => ?_)
  · rw [bfs_congr (z2 := upd z i v) (fun k h1 h2 => (upd_ne (by omega)).symm)]
  · have e : upd (sfn z) i v = sfn (upd z i v) := by
      funext k
      simp only [sfn, upd]
      by_cases hk : k = i
      · subst hk; rw [if_pos rfl, if_pos hi, if_pos rfl]
      · rw [if_neg hk, if_neg hk]
    rw [e]
  · simp only [bkM]
    rw [mfs_congr (z2 := upd z i v) (fun k h1 => (upd_ne (by omega)).symm) (upd_ne (by omega)).symm]
  · simp only [bkP]
    rw [pfn_congr (z2 := upd z i v) (fun k h1 => (upd_ne (by omega)).symm)]
/-- a member's number, below the practices, or the ballot -/
theorem bk_wm {i : Nat} {v : Int32} (fs : List Value) (hj : j < 8) (hi : (14 + 16 * j ≤ i ∧ i < 25 + 16 * j) ∨ i = 142 + j) (hfs : fs = mfs ad (upd z i v) j) : (bkW cI cM ad z wr).set (3 + j) (ad (3 + j), .inr (4, fs)) = bkW cI cM ad (upd z i v) wr := by
  subst hfs
  rw [bkW, bkL_setm hj]
  refine bkL_congr ?_ rfl ?_ (fun q hq => ?_) (fun q hq => ?_)
  · rw [bfs_congr (z2 := upd z i v) (fun k h1 h2 => (upd_ne (by omega)).symm)]
  · rw [sfn_congr (z2 := upd z i v) (fun k h1 => (upd_ne (by omega)).symm)]
  · by_cases e : q = j
    · subst e; rw [if_pos rfl]; rfl
    · rw [if_neg e]
      simp only [bkM]
      rw [mfs_congr (z2 := upd z i v) (fun k h1 => (upd_ne (by omega)).symm) (upd_ne (by omega)).symm]
  · simp only [bkP]
    rw [pfn_congr (z2 := upd z i v) (fun k h1 => (upd_ne (by omega)).symm)]
/-- a practice -/
theorem bk_wp {i : Nat} {v : Int32} (hj : j < 8) (hi : i < 5) : (bkW cI cM ad z wr).set (11 + j) (ad (11 + j), .inl (cI, 5, .inl (upd (pfn z j) i v))) = bkW cI cM ad (upd z (25 + 16 * j + i) v) wr := by
  rw [bkW, bkL_setp hj]
  refine bkL_congr ?_ rfl ?_ (fun q hq => ?_) (fun q hq => ?_)
  · rw [bfs_congr (z2 := upd z (25 + 16 * j + i) v) (fun k h1 h2 => (upd_ne (by omega)).symm)]
  · rw [sfn_congr (z2 := upd z (25 + 16 * j + i) v) (fun k h1 => (upd_ne (by omega)).symm)]
  · simp only [bkM]
    rw [mfs_congr (z2 := upd z (25 + 16 * j + i) v) (fun k h1 => (upd_ne (by omega)).symm) (upd_ne (by omega)).symm]
  · by_cases e : q = j
    · subst e
      rw [if_pos rfl]
      have e2 : upd (pfn z q) i v = pfn (upd z (25 + 16 * q + i) v) q := by
        funext k
        simp only [pfn, upd]
        by_cases hk : k = i
        · subst hk; rw [if_pos rfl, if_pos hi, if_pos rfl]
        · rw [if_neg hk, if_neg (show ¬ (25 + 16 * q + k = 25 + 16 * q + i) by omega)]
      rw [e2]; rfl
    · rw [if_neg e]
      simp only [bkP]
      rw [pfn_congr (z2 := upd z (25 + 16 * j + i) v) (fun k h1 => (upd_ne (by omega)).symm)]
theorem sfn_at {i : Int32} (hi : i = nI k) (hk : k < 5) : sfn z i.toNatClampNeg = z k := by
  rw [hi, nI_clamp (by omega)]; exact if_pos hk
theorem pfn_at {i : Int32} (hi : i = nI k) (hk : k < 5) : pfn z j i.toNatClampNeg = z (25 + 16 * j + k) := by
  rw [hi, nI_clamp (by omega)]; exact if_pos hk
end BK
end
