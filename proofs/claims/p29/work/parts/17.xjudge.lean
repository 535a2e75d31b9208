/-! The judgement of a method that returns or throws: K is 0 where it returns, else the number of the exception in the order of the throws clause. -/
def zStrs : List (Nat × String) := [(36, "8 members came so far"), (55, "no such member"), (71, "the member has left or has a debt"), (80, "no such member or skill"), (87, "both are the same, or minutes is out of range"), (94, "one has left, or the deal is refused"), (104, "minutes is out of range"), (106, "the member has left, or the balance is less than that"), (112, "weeks is out of range"), (117, "the number of the week would be above 2000"), (125, "no such setting"), (131, "value is out of range"), (136, "minutes is below 1"), (142, "the member has left, there is a motion, or the debt is less"), (153, "the member cannot vote now"), (165, "there is no motion"), (204, "what is not 0 to 11"), (210, "what is not 0 or 1"), (218, "what is not 0 to 13")]
def gsA : Nat → Int32 := fun j => if j = 0 then 9999 else if j = 1 then 999 else if j = 2 then 20 else if j = 3 then 100 else 300
def zBad : List Cond := [.castable "java/lang/IllegalArgumentException" "java/lang/IllegalArgumentException", .castable "java/lang/IllegalStateException" "java/lang/IllegalStateException", .castable "java/lang/IndexOutOfBoundsException" "java/lang/IndexOutOfBoundsException", .declares ⟨"java/lang/RuntimeException", "<init>", "()V"⟩, .declares ⟨"java/lang/RuntimeException", "<init>", "(Ljava/lang/String;)V"⟩, .declares ⟨"java/lang/Exception", "<init>", "()V"⟩, .declares ⟨"java/lang/Exception", "<init>", "(Ljava/lang/String;)V"⟩, .declares ⟨"java/lang/Throwable", "<init>", "()V"⟩, .declares ⟨"java/lang/Throwable", "<init>", "(Ljava/lang/String;)V"⟩]
/-- what a throw and a static row want of the state, outside of A -/
def zJ (A : Nat → Prop) (U : State) : Prop := vx_Zq Bundle.tN "UNASSIGNED_STACK" Bundle.steD A U U.heap ∧ vx_Zq Bundle.tN "SUPPRESSED_SENTINEL" Bundle.listD A U U.heap ∧ (∀ w ∈ zBad, va_Nw w U) ∧ (∀ q ∈ zStrs, ∃ a, vk_R RX5 q.1 q.2 a U) ∧ ∃ t : Nat, va_Z RX5 "GREATEST_SETTINGS" "[I" (.ref t) A U U.heap ∧ va_T .int t 5 (fun j => .int (gsA j)) A U U.heap
theorem zBad_warm {s U : State} (hW : s.WarmedH U.vm) {w : Cond} (hw : w ∈ zBad) (h : va_Nw w s) : va_Nw w U := by
  simp only [zBad, List.mem_cons, List.not_mem_nil, or_false] at hw
  rcases hw with rfl | rfl | rfl | rfl | rfl | rfl | rfl | rfl | rfl <;> first | exact va_Nw.warmC hW h | exact va_Nw.warmD hW h
theorem zBadX_in : ((∀ w ∈ zBadX "java/lang/IllegalArgumentException", w ∈ zBad) ∧ (∀ w ∈ zBadX "java/lang/IllegalStateException", w ∈ zBad) ∧ (∀ w ∈ zBadX "java/lang/IndexOutOfBoundsException", w ∈ zBad)) := by decide +kernel
theorem zJ_at {s U : State} {A B : Nat → Prop} {H : Heap} {locs : List Loc} (h : zJ A s) (hS : va_S A s.heap H locs) (hW : s.WarmedH U.vm) (hU : U.heap = H) (hB : ∀ q, B q → A q) : zJ B U := by
  obtain ⟨h1, h2, h3, h4, t, h5, h6⟩ := h
  have kp : ∀ a : Nat, a < s.heap.size → ¬ A a → H[a]? = s.heap[a]? := fun a p q => hS.2.1 a p q
  refine ⟨?_, ?_, fun w hw => zBad_warm hW hw (h3 w hw), fun q hq => ?_, t, ?_, ?_⟩
  · rw [hU]; exact ((h1.kept kp).moved hW.alike).narrow hB
  · rw [hU]; exact ((h2.kept kp).moved hW.alike).narrow hB
  · obtain ⟨a, ha⟩ := h4 q hq; exact ⟨a, vk_R.warm hW ha⟩
  · rw [hU]; exact ((h5.kept kp).moved hW.alike).narrow hB
  · rw [hU]; exact ((h6.kept kp).moved hW.alike).narrow hB
theorem zJ_call {U : State} {A : Nat → Prop} {g : JFrame} {mk : MethodId} {a : Array Value} (h : zJ A U) : zJ A (U.calling g mk a) := by
  obtain ⟨h1, h2, h3, h4, t, h5, h6⟩ := h
  exact ⟨h1.moved (u := U) (U := U.calling g mk a) (Vm.Alike.refl U.vm), h2.moved (u := U) (U := U.calling g mk a) (Vm.Alike.refl U.vm), fun w hw => va_Nw.same (U := U.calling g mk a) (by
    simp only [zBad, List.mem_cons, List.not_mem_nil, or_false] at hw
    rcases hw with rfl | rfl | rfl | rfl | rfl | rfl | rfl | rfl | rfl <;> rfl) (u := U) rfl (h3 w hw), fun q hq => by obtain ⟨b, hb⟩ := h4 q hq; exact ⟨b, vk_R.same (u := U) (U := U.calling g mk a) rfl hb⟩, t, h5.moved (u := U) (U := U.calling g mk a) (Vm.Alike.refl U.vm), h6.moved (u := U) (U := U.calling g mk a) (Vm.Alike.refl U.vm)⟩
def xo (E1 E2 E3 : String) (k : Int32) : Option String := if k = 0 then none else if k = 1 then some E1 else if k = 2 then some E2 else some E3
def zXP (D : va_G) (T : List (ClassId × FieldType)) (w : va_W) (sz : Nat) (U : State) : Prop := zW D T w sz U ∧ zJ (va_A w sz) U
def zXQ (D : va_G) (T : List (ClassId × FieldType)) (w2 : va_W) (rv : Option Value) (K : Int32) (A : Nat → Prop) : Array Value → State → Outcome → State → Prop := fun a st oc t => K = 0 ∧ zQ D T w2 rv A a st oc t
def zXE (D : va_G) (T : List (ClassId × FieldType)) (w : va_W) (E1 E2 E3 : String) (K : Int32) (A : Nat → Prop) : String → State → State → Prop := fun E st t => ¬ K = 0 ∧ xo E1 E2 E3 K = some E ∧ zE D T w A t ∧ va_F A st t
def zX (l : Launch) (D : va_G) (T : List (ClassId × FieldType)) (y : MethodName) (cy : ByteArray) (mL : Nat) (rt : Option FieldType) (rm : Room) (as : List Value) (w w2 w3 : va_W) (rv : Option Value) (E1 E2 E3 : String) (K : Int32) (mc ms : Nat) : Prop :=
  ∀ sz, vx_Met l y (zY y cy mL rt) rm (va_Pc as (zXP D T w sz)) (zXQ D T w2 rv K (va_A w sz)) (zXE D T w3 E1 E2 E3 K (va_A w sz)) mc ms (va_A w sz)
theorem zXP_blind {D : va_G} {T : List (ClassId × FieldType)} {w : va_W} {sz : Nat} {as : List Value} : FrameBlind (va_Pc as (zXP D T w sz)) := fun a U g mk q => by
  obtain ⟨q0, q1, q2⟩ := q
  obtain ⟨p0, p1⟩ := zW_blind (as := as) a U g mk ⟨q0, q1⟩
  exact ⟨p0, p1, zJ_call q2⟩
theorem z_enterX {l : Launch} {D : va_G} {T : List (ClassId × FieldType)} {y : MethodName} {cy : ByteArray} {mL : Nat} {rt : Option FieldType} {rm : Room} {as : List Value} {w w2 w3 : va_W} {rv : Option Value} {E1 E2 E3 : String} {K : Int32} {mc ms : Nat} (hy : plainName y.cls = true) (hn : (lg_sl as).length ≤ mL)
    (body : ∀ (p : Program) (e : Env) (s : State) (m : MethodId) (below : List Frame) (meth : Method) (c : Code) (A : Nat → Prop), CallFix p m c cy mL s as.toArray TT y.cls → meth.sig.returnType = rt → meth.locks = false → (∀ x ∈ c.exceptionTable.toList, False) → zJ A s → zNest s → (∀ q : Nat, s.heap.size ≤ q → A q) → va_K D vwCl T s → va_P D vwCl w s.heap → va_D A w → va_S A s.heap s.heap [] → ∀ ls : Array Slot, lv_has ls mL (lv_args 0 as) → W p l e rm s m as.toArray below meth c s.heap [] 0 0 (vx_MQ below (zXQ D T w2 rv K A) (zXE D T w3 E1 E2 E3 K A) as.toArray s mc ms A) (F0 m 0 ls [])) : zX l D T y cy mL rt rm as w w2 w3 rv E1 E2 E3 K mc ms := by
  intro sz
  refine vx_ofW (cc := cy) (maxL := mL) (ret := rt) hy rfl ?_
  intro p e s m args below meth c s₁ B hml hX hv
  obtain ⟨rfl, ⟨hsz, hP, hK, hD0, hN⟩, hJ⟩ := hv
  subst hsz
  have hts := atoms_spec (ws := zY y cy mL rt) B.pre
  have hD := hD0.self (sz := s.heap.size)
  have hl := lv_entry as (n := mL) hn
  rw [lg_entry_eq]
  exact body p e s m below meth c (va_A w s.heap.size) ⟨B.exec, B.bytes, hml, findClass_of_methodNamed B.named, fun w h => hts w (List.mem_cons_of_mem _ h)⟩ B.returns B.notSynchronized hX hJ hN (fun q h => Or.inr h) hK hP hD va_S.rf _ hl
section ZX
variable {p : Program} {l : Launch} {e : Env} {R : Room} {s : State} {m : MethodId} {args : Array Value} {below : List Frame} {meth : Method} {c : Code} {H : Heap} {locs : List Loc} {cells slots : Nat} {Q : State → Prop}
variable {pc : Nat} {ls : Array Slot} {rest st0 : List Value} {A : Nat → Prop} {mc ms : Nat} {D : va_G} {T : List (ClassId × FieldType)} {cc : ByteArray} {nL index n : Nat} {own : String} {E1 E2 E3 : String} {K : Int32} {rv : Option Value} {w w1 w2 w3 : va_W}
theorem z_xiret {v : Int32} (hexec : p.tables.exec = Jvm.exec) (hb : c.code = cc) (hr : meth.sig.returnType = some .int) (hlocks : meth.locks = false) (hP : va_P D vwCl w1 H) (hD : va_D A w1) (hK : va_K D vwCl T s) (hS : va_S A s.heap H locs) (hK0 : K = 0) (hw : w1 = w2) (hv : some (.int v) = rv) (hdg : decode cc pc = .ok (.ireturn, 1)) : W p l e R s m args below meth c H locs cells slots (vx_MQ below (zXQ D T w2 rv K A) (zXE D T w3 E1 E2 E3 K A) args s cells slots A) (F0 m pc ls [.int v]) :=
  vx_ret (W.iret hexec hb hr (fun t ht hW => ⟨hK0, z_ends hP hD hK hS hw hv t ht hW⟩) hS.2.2 hdg hlocks)
theorem z_throw {cls text : String} {ik is ic : Nat} (hfl : l.stackTraces = false) (S : CallFix p m c cc nL s args TT RX5) (hlocks : meth.locks = false) (hX : ∀ x ∈ c.exceptionTable.toList, False) (hJ : zJ A s) (hK : va_K D vwCl T s) (hP : va_P D vwCl w H) (hD : va_D A w) (hS : va_S A s.heap H locs) (hw3 : w = w3) (hls : ls.size = nL)
    (hcls : Bundle.fit cls = true) (hk : Cond.classLink RX5 ik cls ∈ TT) (hini : Cond.initialized cls ∈ TT) (hg : ∀ w ∈ (vx_atS RX5 ic cls ["java/lang/RuntimeException", "java/lang/Exception"]).filter goodWord, w ∈ lw_tbl) (hbw : ∀ w ∈ (vx_atS RX5 ic cls ["java/lang/RuntimeException", "java/lang/Exception"]).filter (fun w => !goodWord w), w ∈ zBad) (hot : ∀ w ∈ Cond.classLink RX5 ik cls :: Cond.initialized cls :: vx_atS RX5 ic cls ["java/lang/RuntimeException", "java/lang/Exception"], vx_ot w = true) (hst : (is, text) ∈ zStrs)
    (hK0 : ¬ K = 0) (hE : xo E1 E2 E3 K = some cls) (hR : 5 < R.frames ∧ 90 ≤ R.locals ∧ cells + 1 ≤ R.cells ∧ slots + 6 ≤ R.slots) (hrest : (rest.map fun v => v.category).sum ≤ 8)
    (d0 : decode cc pc = .ok (.new ik, 3)) (d3 : decode cc (pc + 3) = .ok (.dup, 1)) (d4 : decode cc (pc + 4) = .ok (.ldc is, 2)) (d6 : decode cc (pc + 6) = .ok (.invokespecial ic, 3)) (d9 : decode cc (pc + 9) = .ok (.athrow, 1)) (hc : cells + 1 ≤ mc) (hs : slots + 6 ≤ ms) :
    W p l e R s m args below meth c H locs cells slots (vx_MQ below (zXQ D T w2 rv K A) (zXE D T w3 E1 E2 E3 K A) args s mc ms A) (F0 m pc ls rest) := by
  subst hw3
  obtain ⟨hx, hb, hml, hown, hts⟩ := S
  obtain ⟨j1, j2, j3, j4, -⟩ := hJ
  obtain ⟨sa, hsa⟩ := j4 _ hst
  refine vx_throwS (names := ["java/lang/RuntimeException", "java/lang/Exception"]) (sa := sa) hx hb hfl hown hcls (by decide) (hts _ hk) (hts _ hini) hsa (vx_hat (B := zBad) (fun w h => hts w (List.mem_filter.mpr ⟨hg w h, (List.mem_filter.mp h).2⟩)) hbw (fun w h => va_Nw.use (by
    simp only [zBad, List.mem_cons, List.not_mem_nil, or_false] at h
    rcases h with rfl | rfl | rfl | rfl | rfl | rfl | rfl | rfl | rfl <;> rfl) (j3 w h))) hot j1 j2 hS (hls.trans hml.symm) d0 d3 d4 d6 d9 (fun x h => (hX x h).elim) hR.1 (by have := hR.2.1; simp only [List.length_cons, List.length_nil]; omega) hR.2.2.1 hR.2.2.2 hlocks (fun t hv hz hk => ⟨hK0, hE, ⟨fun k q hq => ?_, va_K.moved hv hK, hD⟩, Nat.le_trans hS.1 hz, fun q h1 h2 => ?_⟩) hS.2.2 hc hs
  · exact (hP k q hq).kept (hk q.1 (vx_lt hP hq))
  · rw [hk q (Nat.lt_of_lt_of_le h1 hS.1)]; exact hS.2.1 q h1 h2
end ZX
