/-! The judgement of this claim: one contract form, 'from the world w and the arguments as: the answer rv and the world w2'. Every contract speaks of the WHOLE world at hand (its own cells ahead, any rest behind), so no call cuts anything out. -/
theorem z_goodIn {ws : List Cond} (h : ∀ w ∈ ws, w ∈ TT) : GoodIn TT ws := fun w hw => ⟨h w hw, good_of_word (tt_good (h w hw))⟩
abbrev zY (y : MethodName) (cy : ByteArray) (mL : Nat) (rt : Option FieldType) : List Cond := Cond.code y cy mL rt :: TT
/-- links of a private member of a nest mate: no words of the tables that a contract may ask, so the state carries them -/
def zNest (U : State) : Prop := va_Nw (.fieldLinkNest RX0 22 "RipeHours" "FIRST_SETTINGS" "[I" "RipeHours") U ∧ True ∧ True ∧ True ∧ va_Nw (.methodLinkNest RX0 140 yX5_decayingPart "RipeHours") U
theorem zNest_warm {s U : State} (hW : s.WarmedH U.vm) (h : zNest s) : zNest U := by
  obtain ⟨h0, h1, h2, h3, h4⟩ := h
  exact ⟨va_Nw.warmF hW h0, trivial, trivial, trivial, va_Nw.warmM hW h4⟩
theorem zNest_same {s U : State} (hv : s.vm = U.vm) (h : zNest s) : zNest U := by
  obtain ⟨h0, h1, h2, h3, h4⟩ := h
  exact ⟨va_Nw.same rfl hv h0, trivial, trivial, trivial, va_Nw.same rfl hv h4⟩
def zW (D : va_G) (T : List (ClassId × FieldType)) (w : va_W) (sz : Nat) (U : State) : Prop := U.heap.size = sz ∧ va_P D vwCl w U.heap ∧ va_K D vwCl T U ∧ va_D (fun _ => True) w ∧ zNest U
def zE (D : va_G) (T : List (ClassId × FieldType)) (w : va_W) (A : Nat → Prop) (t : State) : Prop := va_P D vwCl w t.heap ∧ va_K D vwCl T t ∧ va_D A w
def zQ (D : va_G) (T : List (ClassId × FieldType)) (w : va_W) (rv : Option Value) (A : Nat → Prop) : Array Value → State → Outcome → State → Prop := fun _ st oc t => (oc = .returned rv ∧ zE D T w A t) ∧ va_F A st t
def zM (l : Launch) (D : va_G) (T : List (ClassId × FieldType)) (y : MethodName) (cy : ByteArray) (mL : Nat) (rt : Option FieldType) (rm : Room) (as : List Value) (w w2 : va_W) (rv : Option Value) (mc ms : Nat) : Prop :=
  ∀ sz, Met l y (zY y cy mL rt) rm (va_Pc as (zW D T w sz)) (zQ D T w2 rv (va_A w sz)) mc ms (va_A w sz)
theorem zW_blind {D : va_G} {T : List (ClassId × FieldType)} {w : va_W} {sz : Nat} {as : List Value} : FrameBlind (va_Pc as (zW D T w sz)) := fun a U g mk q => by
  obtain ⟨q0, q1, qP, qK, qD, qN⟩ := q
  exact ⟨q0, q1, qP, va_K.moved (u := U) (U := U.calling g mk a) (Vm.Alike.refl U.vm) qK, qD, zNest_same (s := U) (U := U.calling g mk a) rfl qN⟩
theorem z_enter {l : Launch} {D : va_G} {T : List (ClassId × FieldType)} {y : MethodName} {cy : ByteArray} {mL : Nat} {rt : Option FieldType} {rm : Room} {as : List Value} {w w2 : va_W} {rv : Option Value} {mc ms : Nat} (hy : plainName y.cls = true) (hn : (lg_sl as).length ≤ mL)
    (body : ∀ (p : Program) (e : Env) (s : State) (m : MethodId) (below : List Frame) (meth : Method) (c : Code) (A : Nat → Prop), CallFix p m c cy mL s as.toArray TT y.cls → meth.sig.returnType = rt → meth.locks = false → meth.name = y.name → zNest s → (∀ q : Nat, s.heap.size ≤ q → A q) → va_K D vwCl T s → va_P D vwCl w s.heap → va_D A w → va_S A s.heap s.heap [] → ∀ ls : Array Slot, lv_has ls mL (lv_args 0 as) → W p l e rm s m as.toArray below meth c s.heap [] 0 0 (MQ below (zQ D T w2 rv A) as.toArray s mc ms A) (F0 m 0 ls [])) : zM l D T y cy mL rt rm as w w2 rv mc ms := by
  intro sz
  refine Met.ofW (cc := cy) (maxL := mL) (ret := rt) hy rfl ?_
  intro p e s m args below meth c s₁ B hml hv
  obtain ⟨rfl, hsz, hP, hK, hD0, hN⟩ := hv
  subst hsz
  have hts := atoms_spec (ws := zY y cy mL rt) B.pre
  have hD := hD0.self (sz := s.heap.size)
  have hl := lv_entry as (n := mL) hn
  rw [lg_entry_eq]
  exact body p e s m below meth c (va_A w s.heap.size) ⟨B.exec, B.bytes, hml, findClass_of_methodNamed B.named, fun w h => hts w (List.mem_cons_of_mem _ h)⟩ B.returns B.notSynchronized (name_of_methodNamed B.named B.method).1 hN (fun q h => Or.inr h) hK hP hD va_S.rf _ hl
section ZC
variable {p : Program} {l : Launch} {e : Env} {R : Room} {s : State} {m : MethodId} {args : Array Value} {below : List Frame} {meth : Method} {c : Code} {H : Heap} {locs : List Loc} {cells slots : Nat} {Q : State → Prop}
variable {pc : Nat} {ls : Array Slot} {rest st0 : List Value} {A : Nat → Prop} {mc ms : Nat} {D : va_G} {T : List (ClassId × FieldType)} {cc : ByteArray} {nL index n : Nat} {own : String}
/-- the callee's words: an instance method of the class C; a static one; a constructor -/
def zV (y : MethodName) (C : String) (cy : ByteArray) (mL : Nat) (rt : Option FieldType) (n : Nat) : Prop := (Cond.instanceMethod y ∈ TT ∧ Cond.selects C y y ∈ TT ∧ Cond.initialized C ∈ TT ∧ Cond.code y cy mL rt ∈ TT) ∧ y.cls = C ∧ y.cls ≠ "java/lang/invoke/MethodHandle" ∧ y.cls ≠ "java/lang/invoke/VarHandle" ∧ (parseMethodDescriptor y.desc).map (fun d => d.parameters.length) = some n
def zSt (y : MethodName) (cy : ByteArray) (mL : Nat) (rt : Option FieldType) (n : Nat) : Prop := (Cond.static y ∈ TT ∧ Cond.initialized y.cls ∈ TT ∧ Cond.code y cy mL rt ∈ TT) ∧ y.cls ≠ "java/lang/invoke/MethodHandle" ∧ y.cls ≠ "java/lang/invoke/VarHandle" ∧ (parseMethodDescriptor y.desc).map (fun d => d.parameters.length) = some n
def zN (y : MethodName) (cy : ByteArray) (mL : Nat) (n : Nat) : Prop := (Cond.instanceMethod y ∈ TT ∧ Cond.initialized y.cls ∈ TT ∧ Cond.code y cy mL none ∈ TT) ∧ y.name = "<init>" ∧ y.cls ≠ "java/lang/invoke/MethodHandle" ∧ y.cls ≠ "java/lang/invoke/VarHandle" ∧ (parseMethodDescriptor y.desc).map (fun d => d.parameters.length) = some n
theorem z_go {w2 : va_W} {rv : Option Value} {A1 : Nat → Prop} {a : Array Value} {free : Addr → Prop} (hr : va_Run p l e R s m args below meth c H locs cells slots mc ms (F0 m pc ls st0) rest (zQ D T w2 rv A1 a) free) (hS : va_S A s.heap H locs) (hA : ∀ q, A1 q → A q) (hf : ∀ q, free q → A q)
    (kk : ∀ (H1 : Heap) (locs1 : List Loc), va_P D vwCl w2 H1 → va_D A w2 → va_S A s.heap H1 locs1 → W p l e R s m args below meth c H1 locs1 (cells + mc) (slots + ms) Q (F0 m (pc + 3) ls (rv.toList ++ rest))) : W p l e R s m args below meth c H locs cells slots Q (F0 m pc ls st0) := by
  intro U hU X
  obtain ⟨v, st₀, t, T', L, h0, X', hL, e1, e2, ⟨⟨hv, hP, hK, hD⟩, hz, hk⟩, st⟩ := hr U hU X
  cases hv
  rw [h0] at hz hk
  obtain ⟨t2, a1, b1⟩ := kk T'.heap (locs ++ L) (by rw [e1]; exact hP) (hD.weaken (fun _ _ _ h => hA _ h))
    ⟨Nat.le_trans hS.1 (by rw [e1]; exact hz), fun q h1 h2 => by rw [e1, hk q (Nat.lt_of_lt_of_le h1 hS.1) (fun z => h2 (hA q z))]; exact hS.2.1 q h1 h2, fun q hq => by
      rcases List.mem_append.mp hq with h | h
      · exact hS.2.2 q h
      · exact hf _ (hL q h)⟩ T' rfl X'
  exact ⟨t2, st t2 a1, b1⟩
theorem z_sub {w : va_W} (hD : va_D A w) (hS : va_S A s.heap H locs) (hA : ∀ q : Nat, s.heap.size ≤ q → A q) : ∀ q, va_A w H.size q → A q := fun q h => by
  rcases h with ⟨k, e, h⟩ | h
  · exact hD.2 k (q, e) h
  · exact hA q (Nat.le_trans hS.1 h)
theorem z_pre {w : va_W} {as : List Value} (hN : zNest s) (hK : va_K D vwCl T s) (hP : va_P D vwCl w H) (hD : va_D A w) : ∀ U : State, U.heap = H → s.WarmedH U.vm → va_Pc as (zW D T w H.size) as.toArray U := fun U hU hW => ⟨rfl, by rw [hU], by rw [hU]; exact hP, va_K.moved hW.alike hK, hD.weaken (fun _ _ _ _ => trivial), zNest_warm hW hN⟩
variable {y : MethodName} {C : String} {cy : ByteArray} {mL : Nat} {rt : Option FieldType} {rm : Room} {b : Nat} {As : List Value} {w w2 : va_W} {rv : Option Value}
theorem z_callV (S : CallFix p m c cc nL s args TT own) (hM : zM l D T y cy mL rt rm (.ref b :: As) w w2 rv mc ms) (hl : Cond.methodLink own index y ∈ TT) (hy : zV y C cy mL rt n) (hR : rm.frames + 1 ≤ R.frames ∧ 8 + (mL + 11) + rm.locals ≤ R.locals) (hrc : rm.cells = mc) (hrs : rm.slots = ms) (hN : zNest s)
    (hK : va_K D vwCl T s) (hP : va_P D vwCl w H) (hD : va_D A w) (hS : va_S A s.heap H locs) (hA : ∀ q : Nat, s.heap.size ≤ q → A q) (q0 : Nat) {ci : Nat} {fs : List Value} {T1 : u_T} {N1 : Nat} (he : w[q0]? = some (b, .inr (ci, fs))) (hc : vwCl[ci]? = some (C, T1, N1))
    (hn : As.length = n) (hls : ls.size = nL) (hst : st0 = As.reverse ++ .ref b :: rest) (hW : (rest.map fun v => v.category).sum ≤ 8) (hdg : decode cc pc = .ok (.invokevirtual index, 3)) (hf : cells + mc ≤ R.cells ∧ slots + ms ≤ R.slots)
    (kk : ∀ (H1 : Heap) (locs1 : List Loc), va_P D vwCl w2 H1 → va_D A w2 → va_S A s.heap H1 locs1 → W p l e R s m args below meth c H1 locs1 (cells + mc) (slots + ms) Q (F0 m (pc + 3) ls (rv.toList ++ rest))) : W p l e R s m args below meth c H locs cells slots Q (F0 m pc ls st0) := by
  obtain ⟨⟨y1, y2, y3, y4⟩, hd⟩ := hy
  refine z_go (va_runV S (hM H.size) (cwV n S.2.2.2.2 (z_goodIn (fun w h => ?_)) rfl hrc hrs hd hR) ⟨zW_blind, va_recv hK hP hc he, z_pre hN hK hP hD⟩ rfl hn hls hst (lv_room hW) hdg hf) hS (z_sub hD hS hA) (z_sub hD hS hA) kk
  simp only [wsV, zY, List.mem_append, List.mem_cons, List.not_mem_nil, or_false] at h
  rcases h with (rfl | rfl | rfl | rfl) | rfl | h
  · exact hl
  · exact y1
  · exact y2
  · exact y3
  · exact y4
  · exact h
theorem z_callS (S : CallFix p m c cc nL s args TT own) (hM : zM l D T y cy mL rt rm As w w2 rv mc ms) (hl : Cond.methodLink own index y ∈ TT) (hy : zSt y cy mL rt n) (hR : rm.frames + 1 ≤ R.frames ∧ 8 + (mL + 11) + rm.locals ≤ R.locals) (hrc : rm.cells = mc) (hrs : rm.slots = ms) (hN : zNest s)
    (hK : va_K D vwCl T s) (hP : va_P D vwCl w H) (hD : va_D A w) (hS : va_S A s.heap H locs) (hA : ∀ q : Nat, s.heap.size ≤ q → A q)
    (hn : As.length = n) (hls : ls.size = nL) (hst : st0 = As.reverse ++ rest) (hW : (rest.map fun v => v.category).sum ≤ 8) (hdg : decode cc pc = .ok (.invokestatic index, 3)) (hf : cells + mc ≤ R.cells ∧ slots + ms ≤ R.slots)
    (kk : ∀ (H1 : Heap) (locs1 : List Loc), va_P D vwCl w2 H1 → va_D A w2 → va_S A s.heap H1 locs1 → W p l e R s m args below meth c H1 locs1 (cells + mc) (slots + ms) Q (F0 m (pc + 3) ls (rv.toList ++ rest))) : W p l e R s m args below meth c H locs cells slots Q (F0 m pc ls st0) := by
  obtain ⟨⟨y1, y2, y3⟩, hd⟩ := hy
  refine z_go (va_runS S (hM H.size) (va_cwS n S.2.2.2.2 (z_goodIn (fun w h => ?_)) rfl hrc hrs hd hR) ⟨zW_blind, z_pre hN hK hP hD⟩ rfl hn hls hst (lv_room hW) hdg hf) hS (z_sub hD hS hA) (z_sub hD hS hA) kk
  simp only [va_wsS, zY, List.mem_append, List.mem_cons, List.not_mem_nil, or_false] at h
  rcases h with (rfl | rfl | rfl) | rfl | h
  · exact hl
  · exact y1
  · exact y2
  · exact y3
  · exact h
theorem z_callI (S : CallFix p m c cc nL s args TT own) (hM : zM l D T y cy mL none rm (.ref b :: As) w w2 none mc ms) (hl : Cond.methodLink own index y ∈ TT) (hy : zN y cy mL n) (hR : rm.frames + 1 ≤ R.frames ∧ 8 + (mL + 11) + rm.locals ≤ R.locals) (hrc : rm.cells = mc) (hrs : rm.slots = ms) (hN : zNest s)
    (hK : va_K D vwCl T s) (hP : va_P D vwCl w H) (hD : va_D A w) (hS : va_S A s.heap H locs) (hA : ∀ q : Nat, s.heap.size ≤ q → A q)
    (hn : As.length = n) (hls : ls.size = nL) (hst : st0 = As.reverse ++ .ref b :: rest) (hW : (rest.map fun v => v.category).sum ≤ 8) (hdg : decode cc pc = .ok (.invokespecial index, 3)) (hf : cells + mc ≤ R.cells ∧ slots + ms ≤ R.slots)
    (kk : ∀ (H1 : Heap) (locs1 : List Loc), va_P D vwCl w2 H1 → va_D A w2 → va_S A s.heap H1 locs1 → W p l e R s m args below meth c H1 locs1 (cells + mc) (slots + ms) Q (F0 m (pc + 3) ls rest)) : W p l e R s m args below meth c H locs cells slots Q (F0 m pc ls st0) := by
  obtain ⟨⟨y1, y2, y3⟩, hy1, hd⟩ := hy
  refine z_go (rv := none) (va_runI S (hM H.size) (cwI n S.2.2.2.2 (z_goodIn (fun w h => ?_)) rfl hrc hrs (S.2.2.2.2 _ y2) (S.2.2.2.2 _ hl) (S.2.2.2.2 _ y1) hy1 hd hR) ⟨zW_blind, z_pre hN hK hP hD⟩ rfl hn hls hst (lv_room hW) hdg hf) hS (z_sub hD hS hA) (z_sub hD hS hA) kk
  rcases List.mem_cons.mp h with rfl | h
  · exact y3
  · exact h
theorem z_callV1 {v : Value} (S : CallFix p m c cc nL s args TT own) (hM : zM l D T y cy mL rt rm (.ref b :: As) w w2 (some v) mc ms) (hl : Cond.methodLink own index y ∈ TT) (hy : zV y C cy mL rt n) (hR : rm.frames + 1 ≤ R.frames ∧ 8 + (mL + 11) + rm.locals ≤ R.locals) (hrc : rm.cells = mc) (hrs : rm.slots = ms) (hN : zNest s)
    (hK : va_K D vwCl T s) (hP : va_P D vwCl w H) (hD : va_D A w) (hS : va_S A s.heap H locs) (hA : ∀ q : Nat, s.heap.size ≤ q → A q) (q0 : Nat) {ci : Nat} {fs : List Value} {T1 : u_T} {N1 : Nat} (he : w[q0]? = some (b, .inr (ci, fs))) (hc : vwCl[ci]? = some (C, T1, N1))
    (hn : As.length = n) (hls : ls.size = nL) (hst : st0 = As.reverse ++ .ref b :: rest) (hW : (rest.map fun v => v.category).sum ≤ 8) (hdg : decode cc pc = .ok (.invokevirtual index, 3)) (hf : cells + mc ≤ R.cells ∧ slots + ms ≤ R.slots)
    (kk : ∀ (H1 : Heap) (locs1 : List Loc), va_P D vwCl w2 H1 → va_D A w2 → va_S A s.heap H1 locs1 → W p l e R s m args below meth c H1 locs1 (cells + mc) (slots + ms) Q (F0 m (pc + 3) ls (v :: rest))) : W p l e R s m args below meth c H locs cells slots Q (F0 m pc ls st0) :=
  z_callV S hM hl hy hR hrc hrs hN hK hP hD hS hA q0 he hc hn hls hst hW hdg hf kk
theorem z_callV0 (S : CallFix p m c cc nL s args TT own) (hM : zM l D T y cy mL rt rm (.ref b :: As) w w2 none mc ms) (hl : Cond.methodLink own index y ∈ TT) (hy : zV y C cy mL rt n) (hR : rm.frames + 1 ≤ R.frames ∧ 8 + (mL + 11) + rm.locals ≤ R.locals) (hrc : rm.cells = mc) (hrs : rm.slots = ms) (hN : zNest s)
    (hK : va_K D vwCl T s) (hP : va_P D vwCl w H) (hD : va_D A w) (hS : va_S A s.heap H locs) (hA : ∀ q : Nat, s.heap.size ≤ q → A q) (q0 : Nat) {ci : Nat} {fs : List Value} {T1 : u_T} {N1 : Nat} (he : w[q0]? = some (b, .inr (ci, fs))) (hc : vwCl[ci]? = some (C, T1, N1))
    (hn : As.length = n) (hls : ls.size = nL) (hst : st0 = As.reverse ++ .ref b :: rest) (hW : (rest.map fun v => v.category).sum ≤ 8) (hdg : decode cc pc = .ok (.invokevirtual index, 3)) (hf : cells + mc ≤ R.cells ∧ slots + ms ≤ R.slots)
    (kk : ∀ (H1 : Heap) (locs1 : List Loc), va_P D vwCl w2 H1 → va_D A w2 → va_S A s.heap H1 locs1 → W p l e R s m args below meth c H1 locs1 (cells + mc) (slots + ms) Q (F0 m (pc + 3) ls rest)) : W p l e R s m args below meth c H locs cells slots Q (F0 m pc ls st0) :=
  z_callV S hM hl hy hR hrc hrs hN hK hP hD hS hA q0 he hc hn hls hst hW hdg hf kk
theorem z_callS1 {v : Value} (S : CallFix p m c cc nL s args TT own) (hM : zM l D T y cy mL rt rm As w w2 (some v) mc ms) (hl : Cond.methodLink own index y ∈ TT) (hy : zSt y cy mL rt n) (hR : rm.frames + 1 ≤ R.frames ∧ 8 + (mL + 11) + rm.locals ≤ R.locals) (hrc : rm.cells = mc) (hrs : rm.slots = ms) (hN : zNest s)
    (hK : va_K D vwCl T s) (hP : va_P D vwCl w H) (hD : va_D A w) (hS : va_S A s.heap H locs) (hA : ∀ q : Nat, s.heap.size ≤ q → A q)
    (hn : As.length = n) (hls : ls.size = nL) (hst : st0 = As.reverse ++ rest) (hW : (rest.map fun v => v.category).sum ≤ 8) (hdg : decode cc pc = .ok (.invokestatic index, 3)) (hf : cells + mc ≤ R.cells ∧ slots + ms ≤ R.slots)
    (kk : ∀ (H1 : Heap) (locs1 : List Loc), va_P D vwCl w2 H1 → va_D A w2 → va_S A s.heap H1 locs1 → W p l e R s m args below meth c H1 locs1 (cells + mc) (slots + ms) Q (F0 m (pc + 3) ls (v :: rest))) : W p l e R s m args below meth c H locs cells slots Q (F0 m pc ls st0) :=
  z_callS S hM hl hy hR hrc hrs hN hK hP hD hS hA hn hls hst hW hdg hf kk
theorem z_callSN1 {v : Value} {host : String} (S : CallFix p m c cc nL s args TT own) (hM : zM l D T y cy mL rt rm As w w2 (some v) mc ms) (hl : va_Nw (.methodLinkNest own index y host) s) (hy : zSt y cy mL rt n) (hR : rm.frames + 1 ≤ R.frames ∧ 8 + (mL + 11) + rm.locals ≤ R.locals) (hrc : rm.cells = mc) (hrs : rm.slots = ms) (hN : zNest s)
    (hK : va_K D vwCl T s) (hP : va_P D vwCl w H) (hD : va_D A w) (hS : va_S A s.heap H locs) (hA : ∀ q : Nat, s.heap.size ≤ q → A q)
    (hn : As.length = n) (hls : ls.size = nL) (hst : st0 = As.reverse ++ rest) (hW : (rest.map fun v => v.category).sum ≤ 8) (hdg : decode cc pc = .ok (.invokestatic index, 3)) (hf : cells + mc ≤ R.cells ∧ slots + ms ≤ R.slots)
    (kk : ∀ (H1 : Heap) (locs1 : List Loc), va_P D vwCl w2 H1 → va_D A w2 → va_S A s.heap H1 locs1 → W p l e R s m args below meth c H1 locs1 (cells + mc) (slots + ms) Q (F0 m (pc + 3) ls (v :: rest))) : W p l e R s m args below meth c H locs cells slots Q (F0 m pc ls st0) := by
  obtain ⟨⟨y1, y2, y3⟩, hd⟩ := hy
  refine z_go (va_runSN S (hM H.size) ⟨va_cnB n S.2.2.2.2 (z_goodIn (fun w h => ?_)) rfl hrc hrs hl (S.2.2.2.2 _ y2) hd hR, S.2.2.2.2 _ y1, trivial⟩ ⟨zW_blind, z_pre hN hK hP hD⟩ rfl hn hls hst (lv_room hW) hdg hf) hS (z_sub hD hS hA) (z_sub hD hS hA) kk
  rcases List.mem_cons.mp h with rfl | h
  · exact y3
  · exact h
/-- a write, and the world under another name -/
theorem z_put (hexec : p.tables.exec = Jvm.exec) (hb : c.code = cc) {ref C : String} {a : Nat} {ws ws2 : va_W} {cl : List vw_C} {tys : List (ClassId × FieldType)} {H0 : Heap} {Tf : u_T} {N ci : Nat} {Ts : List Cond} (hts : ∀ w ∈ Ts, w.before args s = true) (hin : ∀ w ∈ u_ws C Tf N, w ∈ Ts) (ty0 : Nat → FieldType) (hty : ∀ k, k < N → parseFieldDescriptor (Tf k).2.2.1 = some (ty0 k)) (hnm : ∀ a, a < N → ∀ b, b < N → a ≠ b → (Tf a).2.1 ≠ (Tf b).2.1) (hown : s.vm.findClass own = some m.cls) (hK : va_K D cl tys s) (hP : va_P D cl ws H) (hD : va_D A ws) (hS0 : va_S A H0 H locs) (q0 : Nat) {fs : List Value} (he : ws[q0]? = some (a, .inr (ci, fs))) (hc : cl[ci]? = some (C, Tf, N)) (k : Nat) (hk : k < N) (hlink : (Cond.fieldLink own index ref (Tf k).2.1 (Tf k).2.2.1).before args s = true) (hsame : ∀ x, s.fieldFound? (Tf k).1 (Tf k).2.1 (Tf k).2.2.1 = some x → s.fieldFound? ref (Tf k).2.1 (Tf k).2.2.1 = some x) (hfin : (Tf k).2.2.2 = false) {ty : FieldType} {v : Value} (hd : parseFieldDescriptor (Tf k).2.2.1 = some ty) (hn : narrow ty v = v) (hfit : fits ty v = true) (hl : k < fs.length)
    (hdg : decode cc pc = .ok (.putfield index, 3)) (hws : ws.set q0 (a, .inr (ci, fs.set k v)) = ws2) (kk : ∀ (H1 : Heap) (locs1 : List Loc), va_P D cl ws2 H1 → va_D A ws2 → va_S A H0 H1 locs1 → W p l e R s m args below meth c H1 locs1 cells slots Q (F0 m (pc + 3) ls rest)) : W p l e R s m args below meth c H locs cells slots Q (F0 m pc ls (v :: .ref a :: rest)) := by
  subst hws
  exact va_put hexec hb hts hin ty0 hty hnm hown hK hP hD hS0 q0 he hc k hk hlink hsame hfin hd hn hfit hl hdg kk
theorem z_iast (hexec : p.tables.exec = Jvm.exec) (hb : c.code = cc) {a : Nat} {ws ws2 : va_W} {cl : List vw_C} {tys : List (ClassId × FieldType)} {H0 : Heap} (hK : va_K D cl tys s) (hP : va_P D cl ws H) (hD : va_D A ws) (hS : va_S A H0 H locs) (q0 t0 : Nat) {cA : ClassId} {n : Nat} {f : Nat → Int32} (ha : ws[q0]? = some (a, .inl (cA, n, .inl f))) (ht : tys[t0]? = some (cA, .int)) {i : Int32} {x : Int32} (hin : vp_in i n) (hdg : decode cc pc = .ok (.iastore, 1)) (hws : ws.set q0 (a, .inl (cA, n, .inl (upd f i.toNatClampNeg x))) = ws2)
    (kk : ∀ (H1 : Heap) (locs1 : List Loc), va_P D cl ws2 H1 → va_D A ws2 → va_S A H0 H1 locs1 → W p l e R s m args below meth c H1 locs1 cells slots Q (F0 m (pc + 1) ls rest)) : W p l e R s m args below meth c H locs cells slots Q (F0 m pc ls (.int x :: .int i :: .ref a :: rest)) := by
  subst hws
  exact va_iast hexec hb hK hP hD hS q0 t0 ha ht hin hdg kk
theorem z_cast (hexec : p.tables.exec = Jvm.exec) (hb : c.code = cc) {a : Nat} {ws ws2 : va_W} {cl : List vw_C} {tys : List (ClassId × FieldType)} {H0 : Heap} (hK : va_K D cl tys s) (hP : va_P D cl ws H) (hD : va_D A ws) (hS : va_S A H0 H locs) (q0 t0 : Nat) {cA : ClassId} {n : Nat} {f : Nat → Int32} (ha : ws[q0]? = some (a, .inl (cA, n, .inl f))) (ht : tys[t0]? = some (cA, .char)) {i : Int32} {x : Int32} (hin : vp_in i n) (hdg : decode cc pc = .ok (.castore, 1)) (hws : ws.set q0 (a, .inl (cA, n, .inl (upd f i.toNatClampNeg (vp_nar .char x)))) = ws2)
    (kk : ∀ (H1 : Heap) (locs1 : List Loc), va_P D cl ws2 H1 → va_D A ws2 → va_S A H0 H1 locs1 → W p l e R s m args below meth c H1 locs1 cells slots Q (F0 m (pc + 1) ls rest)) : W p l e R s m args below meth c H locs cells slots Q (F0 m pc ls (.int x :: .int i :: .ref a :: rest)) := by
  subst hws
  exact va_cast hexec hb hK hP hD hS q0 t0 ha ht hin hdg kk
/-- the ends -/
theorem z_ends {w1 : va_W} (hP : va_P D vwCl w1 H) (hD : va_D A w1) (hK : va_K D vwCl T s) (hS : va_S A s.heap H locs) (hw : w1 = w2) {v : Option Value} (hv : v = rv) {a : Array Value} : ∀ t : State, t.heap = H → s.WarmedH t.vm → zQ D T w2 rv A a s (.returned v) t := fun t ht hW => by
  subst hw; subst hv
  exact ⟨⟨rfl, by rw [ht]; exact hP, va_K.moved hW.alike hK, hD⟩, hS.F ht⟩
theorem z_iret {v : Int32} {w1 : va_W} (hexec : p.tables.exec = Jvm.exec) (hb : c.code = cc) (hr : meth.sig.returnType = some .int) (hlocks : meth.locks = false) (hP : va_P D vwCl w1 H) (hD : va_D A w1) (hK : va_K D vwCl T s) (hS : va_S A s.heap H locs) (hw : w1 = w2) (hv : some (.int v) = rv) (hdg : decode cc pc = .ok (.ireturn, 1)) : W p l e R s m args below meth c H locs cells slots (MQ below (zQ D T w2 rv A) args s cells slots A) (F0 m pc ls [.int v]) :=
  W.iret hexec hb hr (z_ends hP hD hK hS hw hv) hS.2.2 hdg hlocks
theorem z_zret {v : Int32} {w1 : va_W} (hexec : p.tables.exec = Jvm.exec) (hb : c.code = cc) (hr : meth.sig.returnType = some .boolean) (hlocks : meth.locks = false) (hP : va_P D vwCl w1 H) (hD : va_D A w1) (hK : va_K D vwCl T s) (hS : va_S A s.heap H locs) (hw : w1 = w2) (hv : some (.int v) = rv) (hnr : narrow .boolean (.int v) = .int v) (hdg : decode cc pc = .ok (.ireturn, 1)) : W p l e R s m args below meth c H locs cells slots (MQ below (zQ D T w2 rv A) args s cells slots A) (F0 m pc ls [.int v]) :=
  W.zret hexec hb hr hnr (z_ends hP hD hK hS hw hv) hS.2.2 hdg hlocks
theorem z_vret {w1 : va_W} (hexec : p.tables.exec = Jvm.exec) (hb : c.code = cc) (hr : meth.sig.returnType = none) (hlocks : meth.locks = false) (hP : va_P D vwCl w1 H) (hD : va_D A w1) (hK : va_K D vwCl T s) (hS : va_S A s.heap H locs) (hw : w1 = w2) (hv : none = rv) (hdg : decode cc pc = .ok (.return_, 1)) : W p l e R s m args below meth c H locs cells slots (MQ below (zQ D T w2 rv A) args s cells slots A) (F0 m pc ls []) :=
  W.vret hexec hb hr (z_ends hP hD hK hS hw hv) hS.2.2 hdg hlocks
theorem z_lret {v : Int64} {w1 : va_W} (hexec : p.tables.exec = Jvm.exec) (hb : c.code = cc) (hr : meth.sig.returnType = some .long) (hlocks : meth.locks = false) (hP : va_P D vwCl w1 H) (hD : va_D A w1) (hK : va_K D vwCl T s) (hS : va_S A s.heap H locs) (hw : w1 = w2) (hv : some (.long v) = rv) (hdg : decode cc pc = .ok (.lreturn, 1)) : W p l e R s m args below meth c H locs cells slots (MQ below (zQ D T w2 rv A) args s cells slots A) (F0 m pc ls [.long v]) :=
  W.lret hexec hb hr (z_ends hP hD hK hS hw hv) hS.2.2 hdg hlocks
theorem z_dret {v : UInt64} {w1 : va_W} (hexec : p.tables.exec = Jvm.exec) (hb : c.code = cc) (hr : meth.sig.returnType = some .double) (hlocks : meth.locks = false) (hP : va_P D vwCl w1 H) (hD : va_D A w1) (hK : va_K D vwCl T s) (hS : va_S A s.heap H locs) (hw : w1 = w2) (hv : some (.double v) = rv) (hdg : decode cc pc = .ok (.dreturn, 1)) : W p l e R s m args below meth c H locs cells slots (MQ below (zQ D T w2 rv A) args s cells slots A) (F0 m pc ls [.double v]) :=
  W.dret hexec hb hr (z_ends hP hD hK hS hw hv) hS.2.2 hdg hlocks
end ZC
