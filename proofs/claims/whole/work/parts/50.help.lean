/-! The law's helpers: a call of a method that throws, its handlers. -/
def zC (U : State) : Prop := va_Nc "java/lang/IllegalArgumentException" "java/lang/IndexOutOfBoundsException" U ∧ va_Nc "java/lang/IllegalStateException" "java/lang/IndexOutOfBoundsException" U ∧ va_Nc "java/lang/IllegalStateException" "java/lang/IllegalArgumentException" U
theorem zC_at {s U : State} (h : zC s) (hW : s.WarmedH U.vm) : zC U := ⟨h.1.moved hW.alike, h.2.1.moved hW.alike, h.2.2.moved hW.alike⟩
theorem zC_call {U : State} {g : JFrame} {mk : MethodId} {a : Array Value} (h : zC U) : zC (U.calling g mk a) := ⟨h.1.moved (u := U) (U := U.calling g mk a) (Vm.Alike.refl U.vm), h.2.1.moved (u := U) (U := U.calling g mk a) (Vm.Alike.refl U.vm), h.2.2.moved (u := U) (U := U.calling g mk a) (Vm.Alike.refl U.vm)⟩
def zHP (D : va_G) (T : List (ClassId × FieldType)) (w : va_W) (sz : Nat) (U : State) : Prop := zXP D T w sz U ∧ zC U
theorem zHP_blind {D : va_G} {T : List (ClassId × FieldType)} {w : va_W} {sz : Nat} {as : List Value} : FrameBlind (va_Pc as (zHP D T w sz)) := fun a U g mk q => by
  obtain ⟨q0, q1, q2⟩ := q
  obtain ⟨p0, p1⟩ := zXP_blind (as := as) a U g mk ⟨q0, q1⟩
  exact ⟨p0, p1, zC_call q2⟩
def zH (l : Launch) (D : va_G) (T : List (ClassId × FieldType)) (y : MethodName) (cy : ByteArray) (mL : Nat) (hh : List (Nat × Nat × Nat × Nat)) (rm : Room) (as : List Value) (w w2 : va_W) (K : Int32) (mc ms : Nat) : Prop :=
  ∀ sz, Met l y (Cond.codeWith y cy mL (some .int) hh :: TT) rm (va_Pc as (zHP D T w sz)) (zQ D T w2 (some (.int K)) (va_A w sz)) mc ms (va_A w sz)
theorem z_enterH {l : Launch} {D : va_G} {T : List (ClassId × FieldType)} {y : MethodName} {cy : ByteArray} {mL : Nat} {hh : List (Nat × Nat × Nat × Nat)} {rm : Room} {as : List Value} {w w2 : va_W} {K : Int32} {mc ms : Nat} (hy : plainName y.cls = true) (hn : (lg_sl as).length ≤ mL)
    (body : ∀ (p : Program) (e : Env) (s : State) (m : MethodId) (below : List Frame) (meth : Method) (c : Code) (A : Nat → Prop), CallFix p m c cy mL s as.toArray TT y.cls → meth.sig.returnType = some .int → meth.locks = false → c.exceptionTable.toList = tableOf hh → zC s → zJ A s → zNest s → (∀ q : Nat, s.heap.size ≤ q → A q) → va_K D vwCl T s → va_P D vwCl w s.heap → va_D A w → va_S A s.heap s.heap [] → ∀ ls : Array Slot, lv_has ls mL (lv_args 0 as) → W p l e rm s m as.toArray below meth c s.heap [] 0 0 (MQ below (zQ D T w2 (some (.int K)) A) as.toArray s mc ms A) (F0 m 0 ls [])) : zH l D T y cy mL hh rm as w w2 K mc ms := by
  intro sz
  refine MetFree.of_bodyS (code := cy) (maxLocals := mL) (ret := some .int) hy ?_ ?_
  · intro args s m h hn
    obtain ⟨m9, meth, c, hn9, h1, h2, h3, h4, -, h5, h6, -⟩ := Cond.codeWith_spec (atoms_spec (ws := Cond.codeWith y cy mL (some .int) hh :: TT) h _ List.mem_cons_self)
    cases hn.symm.trans hn9
    exact ⟨meth, c, h1, h2, h3, h4, h5, h6⟩
  · intro p e s m args below meth c s₁ B hml hP _
    have hh0 : s₁.heap = s.heap := by rw [B.state]; rfl
    obtain ⟨rfl, ⟨⟨hsz, hP, hK, hD0, hN⟩, hJ⟩, hC⟩ := hP
    subst hsz
    have hts := atoms_spec (ws := Cond.codeWith y cy mL (some .int) hh :: TT) B.pre
    have hD := hD0.self (sz := s.heap.size)
    have hl := lv_entry as (n := mL) hn
    have K0 := body p e s m below meth c (va_A w s.heap.size) ⟨B.exec, B.bytes, hml, findClass_of_methodNamed B.named, fun w h => hts w (List.mem_cons_of_mem _ h)⟩ B.returns B.notSynchronized (vx_table (x := y) B (hts _ List.mem_cons_self)) hC hJ hN (fun q h => Or.inr h) hK hP hD va_S.rf _ hl
    rw [← lg_entry_eq] at K0
    obtain ⟨t, a1, o, b1, b2, b3⟩ := K0 s₁ hh0 (Stand.of_body B)
    exact ⟨t, o, a1, b1, b2, ⟨b3.1, b3.2⟩⟩
section ZHC
variable {p : Program} {l : Launch} {e : Env} {R : Room} {s : State} {m : MethodId} {args : Array Value} {below : List Frame} {meth : Method} {c : Code} {H : Heap} {locs : List Loc} {cells slots : Nat} {Q : State → Prop}
variable {pc : Nat} {ls : Array Slot} {rest st0 : List Value} {A : Nat → Prop} {mc ms : Nat} {D : va_G} {T : List (ClassId × FieldType)} {cc : ByteArray} {nL index n : Nat} {own : String}
theorem lv_lcmp0 (hexec : p.tables.exec = Jvm.exec) (hb : c.code = cc) {x : Int64} (hdg : decode cc pc = .ok (.lcmp, 1))
    (k : W p l e R s m args below meth c H locs cells slots Q (F0 m (pc + 1) ls (.int 0 :: rest))) : W p l e R s m args below meth c H locs cells slots Q (F0 m pc ls (.long x :: .long x :: rest)) := by
  intro T hT X
  obtain ⟨t, a, b⟩ := k T hT X
  refine ⟨t, ?_, b⟩
  jvm_step X.here [X.here.top, hexec, hb, hdg]
  exact a
theorem z_goX {w2 w3 : va_W} {rv : Option Value} {E1 E2 E3 : String} {K : Int32} {A1 : Nat → Prop} {a : Array Value} {free : Addr → Prop} (hr : vx_Run p l e R s m args below meth c H locs cells slots mc ms (F0 m pc ls st0) rest (zXQ D T w2 rv K A1 a) (zXE D T w3 E1 E2 E3 K A1) free) (hS : va_S A s.heap H locs) (hA : ∀ q, A1 q → A q) (hf : ∀ q, free q → A q)
    (kk : K = 0 → ∀ (H1 : Heap) (locs1 : List Loc), va_P D vwCl w2 H1 → va_D A w2 → va_S A s.heap H1 locs1 → W p l e R s m args below meth c H1 locs1 (cells + mc) (slots + ms) Q (F0 m (pc + 3) ls (rv.toList ++ rest)))
    (kx : ¬ K = 0 → ∀ (E : String), xo E1 E2 E3 K = some E → ∀ (ce : Cell) (q9 : Addr) (H1 : Heap) (locs1 : List Loc), va_P D vwCl w3 H1 → va_D A w3 → va_S A s.heap H1 locs1 → H1[q9]? = some ce → ce.vm = .none → s.vm.findClass E = some ce.cls → vx_W p l e R s m args below meth c H1 locs1 (cells + mc) (slots + ms) Q (F0 m pc ls rest) q9) : W p l e R s m args below meth c H locs cells slots Q (F0 m pc ls st0) := by
  intro U hU X
  rcases hr U hU X with ⟨v, st₀, t, T', L, h0, X', hL, e1, e2, ⟨hK0, ⟨hv, hP, hK, hD⟩, hF⟩, st⟩ | ⟨q, st₀, t, T', L, E, ce, h0, X', hL, e1, e2, ⟨hK0, hE, ⟨hP, hK, hD⟩, hF⟩, hce, hcv, hcl, st⟩
  · cases hv
    obtain ⟨k1, k2, k3⟩ := vx_keep h0 e1 hS (fun q _ h => hA q h) hf hL hF
    obtain ⟨t2, a1, b1⟩ := kk hK0 T'.heap (locs ++ L) (by rw [e1]; exact hP) (hD.weaken (fun _ _ _ h => hA _ h)) k3 T' rfl X'
    exact ⟨t2, st t2 a1, b1⟩
  · obtain ⟨k1, k2, k3⟩ := vx_keep h0 e1 hS (fun q _ h => hA q h) hf hL hF
    obtain ⟨t2, a1, b1⟩ := kx hK0 E hE ce q T'.heap (locs ++ L) (by rw [e1]; exact hP) (hD.weaken (fun _ _ _ h => hA _ h)) k3 (by rw [e1]; exact hce) hcv hcl T' rfl X'
    exact ⟨t2, st.trans a1, b1⟩
variable {y : MethodName} {C : String} {cy : ByteArray} {mL : Nat} {rt : Option FieldType} {rm : Room} {b : Nat} {As : List Value} {w w2 w3 : va_W} {rv : Option Value} {E1 E2 E3 : String} {K : Int32}
theorem z_callX (S : CallFix p m c cc nL s args TT own) (hM : zX l D T y cy mL rt rm (.ref b :: As) w w2 w3 rv E1 E2 E3 K mc ms) (hl : Cond.methodLink own index y ∈ TT) (hy : zV y C cy mL rt n) (hR : rm.frames + 1 ≤ R.frames ∧ 8 + (mL + 11) + rm.locals ≤ R.locals) (hrc : rm.cells = mc) (hrs : rm.slots = ms) (hJ : zJ A s) (hN : zNest s)
    (hK : va_K D vwCl T s) (hP : va_P D vwCl w H) (hD : va_D A w) (hS : va_S A s.heap H locs) (hA : ∀ q : Nat, s.heap.size ≤ q → A q) (q0 : Nat) {ci : Nat} {fs : List Value} {T1 : u_T} {N1 : Nat} (he : w[q0]? = some (b, .inr (ci, fs))) (hc : vwCl[ci]? = some (C, T1, N1))
    (hn : As.length = n) (hls : ls.size = nL) (hst : st0 = As.reverse ++ .ref b :: rest) (hW : (rest.map fun v => v.category).sum ≤ 8) (hdg : decode cc pc = .ok (.invokevirtual index, 3)) (hf : cells + mc ≤ R.cells ∧ slots + ms ≤ R.slots)
    (kk : K = 0 → ∀ (H1 : Heap) (locs1 : List Loc), va_P D vwCl w2 H1 → va_D A w2 → va_S A s.heap H1 locs1 → W p l e R s m args below meth c H1 locs1 (cells + mc) (slots + ms) Q (F0 m (pc + 3) ls (rv.toList ++ rest)))
    (kx : ¬ K = 0 → ∀ (E : String), xo E1 E2 E3 K = some E → ∀ (ce : Cell) (q9 : Addr) (H1 : Heap) (locs1 : List Loc), va_P D vwCl w3 H1 → va_D A w3 → va_S A s.heap H1 locs1 → H1[q9]? = some ce → ce.vm = .none → s.vm.findClass E = some ce.cls → vx_W p l e R s m args below meth c H1 locs1 (cells + mc) (slots + ms) Q (F0 m pc ls rest) q9) : W p l e R s m args below meth c H locs cells slots Q (F0 m pc ls st0) := by
  obtain ⟨⟨y1, y2, y3, y4⟩, hd⟩ := hy
  refine z_goX (vx_runV S (hM H.size) (cwV n S.2.2.2.2 (z_goodIn (fun w h => ?_)) rfl hrc hrs hd hR) ⟨zXP_blind, va_recv hK hP hc he, fun U hU hW2 => by
    obtain ⟨a0, a1⟩ := z_pre (as := .ref b :: As) hN hK hP hD U hU hW2
    exact ⟨a0, a1, zJ_at hJ hS hW2 hU (z_sub hD hS hA)⟩⟩ rfl hn hls hst (lv_room hW) hdg hf) hS (z_sub hD hS hA) (z_sub hD hS hA) kk kx
  simp only [wsV, zY, List.mem_append, List.mem_cons, List.not_mem_nil, or_false] at h
  rcases h with (rfl | rfl | rfl | rfl) | rfl | h
  · exact hl
  · exact y1
  · exact y2
  · exact y3
  · exact y4
  · exact h
/-- a call of a helper -/
theorem z_callH {hh : List (Nat × Nat × Nat × Nat)} (S : CallFix p m c cc nL s args TT own) (hM : zH l D T y cy mL hh rm As w w2 K mc ms) (hl : Cond.methodLink own index y ∈ TT) (hy1 : Cond.static y ∈ TT ∧ Cond.initialized y.cls ∈ TT ∧ Cond.codeWith y cy mL (some .int) hh ∈ TT) (hy2 : y.cls ≠ "java/lang/invoke/MethodHandle" ∧ y.cls ≠ "java/lang/invoke/VarHandle" ∧ (parseMethodDescriptor y.desc).map (fun d => d.parameters.length) = some n) (hR : rm.frames + 1 ≤ R.frames ∧ 8 + (mL + 11) + rm.locals ≤ R.locals) (hrc : rm.cells = mc) (hrs : rm.slots = ms) (hC : zC s) (hJ : zJ A s) (hN : zNest s)
    (hK : va_K D vwCl T s) (hP : va_P D vwCl w H) (hD : va_D A w) (hS : va_S A s.heap H locs) (hA : ∀ q : Nat, s.heap.size ≤ q → A q)
    (hn : As.length = n) (hls : ls.size = nL) (hst : st0 = As.reverse ++ rest) (hW : (rest.map fun v => v.category).sum ≤ 8) (hdg : decode cc pc = .ok (.invokestatic index, 3)) (hf : cells + mc ≤ R.cells ∧ slots + ms ≤ R.slots)
    (kk : ∀ (H1 : Heap) (locs1 : List Loc), va_P D vwCl w2 H1 → va_D A w2 → va_S A s.heap H1 locs1 → W p l e R s m args below meth c H1 locs1 (cells + mc) (slots + ms) Q (F0 m (pc + 3) ls (.int K :: rest))) : W p l e R s m args below meth c H locs cells slots Q (F0 m pc ls st0) := by
  obtain ⟨y1, y2, y3⟩ := hy1
  refine z_go (rv := some (.int K)) (vx_runSW S (hM H.size) (vx_cwSW n S.2.2.2.2 (z_goodIn (fun w h => ?_)) rfl hrc hrs hy2 hR) ⟨zHP_blind, fun U hU hW2 => by
    obtain ⟨a0, a1⟩ := z_pre (as := As) hN hK hP hD U hU hW2
    exact ⟨a0, ⟨a1, zJ_at hJ hS hW2 hU (z_sub hD hS hA)⟩, zC_at hC hW2⟩⟩ rfl hn hls hst (lv_room hW) hdg hf) hS (z_sub hD hS hA) (z_sub hD hS hA) kk
  simp only [va_wsS, List.mem_append, List.mem_cons, List.not_mem_nil, or_false] at h
  rcases h with (rfl | rfl | rfl) | rfl | h
  · exact hl
  · exact y1
  · exact y2
  · exact y3
  · exact h
end ZHC
