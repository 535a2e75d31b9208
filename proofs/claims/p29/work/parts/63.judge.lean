/-! A method whose world behind it is one of many (G); the script, read by a method. -/
def zRQ (D : va_G) (T : List (ClassId × FieldType)) (G : va_W → Prop) (rv : Option Value) (A : Nat → Prop) : Array Value → State → Outcome → State → Prop := fun _ st oc t => (oc = .returned rv ∧ ∃ w2 : va_W, G w2 ∧ zE D T w2 A t) ∧ va_F A st t
def zR (l : Launch) (D : va_G) (T : List (ClassId × FieldType)) (y : MethodName) (cy : ByteArray) (mL : Nat) (rt : Option FieldType) (rm : Room) (as : List Value) (w : va_W) (G : va_W → Prop) (rv : Option Value) (mc ms : Nat) : Prop :=
  ∀ sz, Met l y (zY y cy mL rt) rm (va_Pc as (zXP D T w sz)) (zRQ D T G rv (va_A w sz)) mc ms (va_A w sz)
theorem z_enterR {l : Launch} {D : va_G} {T : List (ClassId × FieldType)} {y : MethodName} {cy : ByteArray} {mL : Nat} {rt : Option FieldType} {rm : Room} {as : List Value} {w : va_W} {G : va_W → Prop} {rv : Option Value} {mc ms : Nat} (hy : plainName y.cls = true) (hn : (lg_sl as).length ≤ mL)
    (body : ∀ (p : Program) (e : Env) (s : State) (m : MethodId) (below : List Frame) (meth : Method) (c : Code) (A : Nat → Prop), CallFix p m c cy mL s as.toArray TT y.cls → meth.sig.returnType = rt → meth.locks = false → meth.name = y.name → zJ A s → zNest s → (∀ q : Nat, s.heap.size ≤ q → A q) → va_K D vwCl T s → va_P D vwCl w s.heap → va_D A w → va_S A s.heap s.heap [] → ∀ ls : Array Slot, lv_has ls mL (lv_args 0 as) → W p l e rm s m as.toArray below meth c s.heap [] 0 0 (MQ below (zRQ D T G rv A) as.toArray s mc ms A) (F0 m 0 ls [])) : zR l D T y cy mL rt rm as w G rv mc ms := by
  intro sz
  refine Met.ofW (cc := cy) (maxL := mL) (ret := rt) hy rfl ?_
  intro p e s m args below meth c s₁ B hml hv
  obtain ⟨rfl, ⟨hsz, hP, hK, hD0, hN⟩, hJ⟩ := hv
  subst hsz
  have hts := atoms_spec (ws := zY y cy mL rt) B.pre
  have hD := hD0.self (sz := s.heap.size)
  have hl := lv_entry as (n := mL) hn
  rw [lg_entry_eq]
  exact body p e s m below meth c (va_A w s.heap.size) ⟨B.exec, B.bytes, hml, findClass_of_methodNamed B.named, fun w h => hts w (List.mem_cons_of_mem _ h)⟩ B.returns B.notSynchronized (name_of_methodNamed B.named B.method).1 hJ hN (fun q h => Or.inr h) hK hP hD va_S.rf _ hl
/-- a method that reads the script: pre and post of a world w that it leaves alone -/
def zCP (D : va_G) (T : List (ClassId × FieldType)) (w : va_W) (b L : Nat) (xs : Nat → Int32) (sz : Nat) (U : State) : Prop := zW D T w sz U ∧ va_X b L xs U U.heap ∧ b < U.heap.size ∧ ¬ va_A w sz b
theorem zCP_blind {D : va_G} {T : List (ClassId × FieldType)} {w : va_W} {b L : Nat} {xs : Nat → Int32} {sz : Nat} {as : List Value} : FrameBlind (va_Pc as (zCP D T w b L xs sz)) := fun a U g mk q => by
  obtain ⟨q0, q1, q2, q3, q4⟩ := q
  obtain ⟨p0, p1⟩ := zW_blind (as := as) a U g mk ⟨q0, q1⟩
  exact ⟨p0, p1, q2.moved (u := U) (U := U.calling g mk a) (Vm.Alike.refl U.vm), q3, q4⟩
def zS (l : Launch) (D : va_G) (T : List (ClassId × FieldType)) (y : MethodName) (cy : ByteArray) (mL : Nat) (rm : Room) (as : List Value) (w : va_W) (b L : Nat) (xs : Nat → Int32) (rv : Option Value) : Prop :=
  ∀ sz, Met l y (zY y cy mL (some .int)) rm (va_Pc as (zCP D T w b L xs sz)) (zQ D T w rv (va_A w sz)) 0 0 (va_A w sz)
theorem z_enterS {l : Launch} {D : va_G} {T : List (ClassId × FieldType)} {y : MethodName} {cy : ByteArray} {mL : Nat} {rm : Room} {as : List Value} {w : va_W} {b L : Nat} {xs : Nat → Int32} {rv : Option Value} (hy : plainName y.cls = true) (hn : (lg_sl as).length ≤ mL)
    (body : ∀ (p : Program) (e : Env) (s : State) (m : MethodId) (below : List Frame) (meth : Method) (c : Code) (A : Nat → Prop), CallFix p m c cy mL s as.toArray TT y.cls → meth.sig.returnType = some .int → meth.locks = false → va_X b L xs s s.heap → b < s.heap.size → ¬ A b → va_K D vwCl T s → va_P D vwCl w s.heap → va_D A w → va_S A s.heap s.heap [] → ∀ ls : Array Slot, lv_has ls mL (lv_args 0 as) → W p l e rm s m as.toArray below meth c s.heap [] 0 0 (MQ below (zQ D T w rv A) as.toArray s 0 0 A) (F0 m 0 ls [])) : zS l D T y cy mL rm as w b L xs rv := by
  intro sz
  refine Met.ofW (cc := cy) (maxL := mL) (ret := some .int) hy rfl ?_
  intro p e s m args below meth c s₁ B hml hv
  obtain ⟨rfl, ⟨hsz, hP, hK, hD0, hN⟩, hX, hbl, hbA⟩ := hv
  subst hsz
  have hts := atoms_spec (ws := zY y cy mL (some .int)) B.pre
  have hD := hD0.self (sz := s.heap.size)
  have hl := lv_entry as (n := mL) hn
  rw [lg_entry_eq]
  exact body p e s m below meth c (va_A w s.heap.size) ⟨B.exec, B.bytes, hml, findClass_of_methodNamed B.named, fun w h => hts w (List.mem_cons_of_mem _ h)⟩ B.returns B.notSynchronized hX hbl hbA hK hP hD va_S.rf _ hl
section ZRC
variable {p : Program} {l : Launch} {e : Env} {R : Room} {s : State} {m : MethodId} {args : Array Value} {below : List Frame} {meth : Method} {c : Code} {H : Heap} {locs : List Loc} {cells slots : Nat} {Q : State → Prop}
variable {pc : Nat} {ls : Array Slot} {rest st0 : List Value} {A : Nat → Prop} {mc ms : Nat} {D : va_G} {T : List (ClassId × FieldType)} {cc : ByteArray} {nL index n : Nat} {own : String}
theorem z_zretR {G : va_W → Prop} {w1 : va_W} {v : Int32} {rv : Option Value} (hexec : p.tables.exec = Jvm.exec) (hb : c.code = cc) (hr : meth.sig.returnType = some .boolean) (hlocks : meth.locks = false) (hP : va_P D vwCl w1 H) (hD : va_D A w1) (hK : va_K D vwCl T s) (hS : va_S A s.heap H locs) (hG : G w1) (hv : some (.int v) = rv) (hnr : narrow .boolean (.int v) = .int v) (hdg : decode cc pc = .ok (.ireturn, 1)) : W p l e R s m args below meth c H locs cells slots (MQ below (zRQ D T G rv A) args s cells slots A) (F0 m pc ls [.int v]) :=
  W.zret hexec hb hr hnr (fun t ht hW => ⟨⟨by rw [hv], w1, hG, by rw [ht]; exact hP, va_K.moved hW.alike hK, hD⟩, hS.F ht⟩) hS.2.2 hdg hlocks
theorem z_goR {G : va_W → Prop} {rv : Option Value} {A1 : Nat → Prop} {a : Array Value} {free : Addr → Prop} (hr : va_Run p l e R s m args below meth c H locs cells slots mc ms (F0 m pc ls st0) rest (zRQ D T G rv A1 a) free) (hS : va_S A s.heap H locs) (hA : ∀ q, A1 q → A q) (hf : ∀ q, free q → A q)
    (kk : ∀ (w2 : va_W) (H1 : Heap) (locs1 : List Loc), G w2 → va_P D vwCl w2 H1 → va_D A w2 → va_S A s.heap H1 locs1 → W p l e R s m args below meth c H1 locs1 (cells + mc) (slots + ms) Q (F0 m (pc + 3) ls (rv.toList ++ rest))) : W p l e R s m args below meth c H locs cells slots Q (F0 m pc ls st0) := by
  intro U hU X
  obtain ⟨v, st₀, t, T', L, h0, X', hL, e1, e2, ⟨⟨hv, w2, hG, hP, hK, hD⟩, hz, hk⟩, st⟩ := hr U hU X
  cases hv
  rw [h0] at hz hk
  obtain ⟨t2, a1, b1⟩ := kk w2 T'.heap (locs ++ L) hG (by rw [e1]; exact hP) (hD.weaken (fun _ _ _ h => hA _ h))
    ⟨Nat.le_trans hS.1 (by rw [e1]; exact hz), fun q h1 h2 => by rw [e1, hk q (Nat.lt_of_lt_of_le h1 hS.1) (fun z => h2 (hA q z))]; exact hS.2.1 q h1 h2, fun q hq => by
      rcases List.mem_append.mp hq with h | h
      · exact hS.2.2 q h
      · exact hf _ (hL q h)⟩ T' rfl X'
  exact ⟨t2, st t2 a1, b1⟩
variable {y : MethodName} {cy : ByteArray} {mL : Nat} {rt : Option FieldType} {rm : Room} {As : List Value} {w w2 : va_W}
theorem z_callS0 (S : CallFix p m c cc nL s args TT own) (hM : zM l D T y cy mL rt rm As w w2 none mc ms) (hl : Cond.methodLink own index y ∈ TT) (hy : zSt y cy mL rt n) (hR : rm.frames + 1 ≤ R.frames ∧ 8 + (mL + 11) + rm.locals ≤ R.locals) (hrc : rm.cells = mc) (hrs : rm.slots = ms) (hN : zNest s)
    (hK : va_K D vwCl T s) (hP : va_P D vwCl w H) (hD : va_D A w) (hS : va_S A s.heap H locs) (hA : ∀ q : Nat, s.heap.size ≤ q → A q)
    (hn : As.length = n) (hls : ls.size = nL) (hst : st0 = As.reverse ++ rest) (hW : (rest.map fun v => v.category).sum ≤ 8) (hdg : decode cc pc = .ok (.invokestatic index, 3)) (hf : cells + mc ≤ R.cells ∧ slots + ms ≤ R.slots)
    (kk : ∀ (H1 : Heap) (locs1 : List Loc), va_P D vwCl w2 H1 → va_D A w2 → va_S A s.heap H1 locs1 → W p l e R s m args below meth c H1 locs1 (cells + mc) (slots + ms) Q (F0 m (pc + 3) ls rest)) : W p l e R s m args below meth c H locs cells slots Q (F0 m pc ls st0) :=
  z_callS S hM hl hy hR hrc hrs hN hK hP hD hS hA hn hls hst hW hdg hf kk
theorem z_callR {G : va_W → Prop} {v : Value} (S : CallFix p m c cc nL s args TT own) (hM : zR l D T y cy mL rt rm As w G (some v) mc ms) (hl : Cond.methodLink own index y ∈ TT) (hy : zSt y cy mL rt n) (hR : rm.frames + 1 ≤ R.frames ∧ 8 + (mL + 11) + rm.locals ≤ R.locals) (hrc : rm.cells = mc) (hrs : rm.slots = ms) (hJ : zJ A s) (hN : zNest s)
    (hK : va_K D vwCl T s) (hP : va_P D vwCl w H) (hD : va_D A w) (hS : va_S A s.heap H locs) (hA : ∀ q : Nat, s.heap.size ≤ q → A q)
    (hn : As.length = n) (hls : ls.size = nL) (hst : st0 = As.reverse ++ rest) (hW : (rest.map fun v => v.category).sum ≤ 8) (hdg : decode cc pc = .ok (.invokestatic index, 3)) (hf : cells + mc ≤ R.cells ∧ slots + ms ≤ R.slots)
    (kk : ∀ (w2 : va_W) (H1 : Heap) (locs1 : List Loc), G w2 → va_P D vwCl w2 H1 → va_D A w2 → va_S A s.heap H1 locs1 → W p l e R s m args below meth c H1 locs1 (cells + mc) (slots + ms) Q (F0 m (pc + 3) ls (v :: rest))) : W p l e R s m args below meth c H locs cells slots Q (F0 m pc ls st0) := by
  obtain ⟨⟨y1, y2, y3⟩, hd⟩ := hy
  refine z_goR (rv := some v) (va_runS S (hM H.size) (va_cwS n S.2.2.2.2 (z_goodIn (fun w h => ?_)) rfl hrc hrs hd hR) ⟨zXP_blind, fun U hU hW2 => by
    obtain ⟨a0, a1⟩ := z_pre (as := As) hN hK hP hD U hU hW2
    exact ⟨a0, a1, zJ_at hJ hS hW2 hU (z_sub hD hS hA)⟩⟩ rfl hn hls hst (lv_room hW) hdg hf) hS (z_sub hD hS hA) (z_sub hD hS hA) kk
  simp only [va_wsS, zY, List.mem_append, List.mem_cons, List.not_mem_nil, or_false] at h
  rcases h with (rfl | rfl | rfl) | rfl | h
  · exact hl
  · exact y1
  · exact y2
  · exact y3
  · exact h
theorem z_callRd {v : Value} {bs L : Nat} {xs : Nat → Int32} (S : CallFix p m c cc nL s args TT own) (hM : zS l D T y cy mL rm As w bs L xs (some v)) (hl : Cond.methodLink own index y ∈ TT) (hy : zSt y cy mL (some .int) n) (hR : rm.frames + 1 ≤ R.frames ∧ 8 + (mL + 11) + rm.locals ≤ R.locals) (hrc : rm.cells = 0) (hrs : rm.slots = 0) (hX : va_X bs L xs s s.heap) (hbl : bs < s.heap.size) (hbA : ¬ A bs) (hN : zNest s)
    (hK : va_K D vwCl T s) (hP : va_P D vwCl w H) (hD : va_D A w) (hS : va_S A s.heap H locs) (hA : ∀ q : Nat, s.heap.size ≤ q → A q)
    (hn : As.length = n) (hls : ls.size = nL) (hst : st0 = As.reverse ++ rest) (hW : (rest.map fun v => v.category).sum ≤ 8) (hdg : decode cc pc = .ok (.invokestatic index, 3)) (hf : cells + 0 ≤ R.cells ∧ slots + 0 ≤ R.slots)
    (kk : ∀ (H1 : Heap) (locs1 : List Loc), va_P D vwCl w H1 → va_D A w → va_S A s.heap H1 locs1 → W p l e R s m args below meth c H1 locs1 cells slots Q (F0 m (pc + 3) ls (v :: rest))) : W p l e R s m args below meth c H locs cells slots Q (F0 m pc ls st0) := by
  obtain ⟨⟨y1, y2, y3⟩, hd⟩ := hy
  refine z_go (rv := some v) (va_runS S (hM H.size) (va_cwS n S.2.2.2.2 (z_goodIn (fun w h => ?_)) rfl hrc hrs hd hR) ⟨zCP_blind, fun U hU hW2 => by
    obtain ⟨a0, a1⟩ := z_pre (as := As) hN hK hP hD U hU hW2
    refine ⟨a0, a1, ?_, ?_, fun q => hbA (z_sub hD hS hA _ q)⟩
    · rw [hU]; exact (hX.kept (hS.2.1 bs hbl hbA)).moved hW2.alike
    · rw [hU]; exact Nat.lt_of_lt_of_le hbl hS.1⟩ rfl hn hls hst (lv_room hW) hdg hf) hS (z_sub hD hS hA) (z_sub hD hS hA) kk
  simp only [va_wsS, zY, List.mem_append, List.mem_cons, List.not_mem_nil, or_false] at h
  rcases h with (rfl | rfl | rfl) | rfl | h
  · exact hl
  · exact y1
  · exact y2
  · exact y3
  · exact h
end ZRC
