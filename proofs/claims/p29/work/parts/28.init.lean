/-! Constructors: the world behind one has new addresses. -/
theorem ra_uniq {U : State} {c1 c2 : ClassId} {ty : FieldType} (h1 : va_RA U c1 ty) (h2 : va_RA U c2 ty) : c1 = c2 := by
  cases ty with
  | object C =>
    obtain ⟨_, _, _, _, _, a⟩ := h1
    obtain ⟨_, _, _, _, _, b⟩ := h2
    exact Option.some.inj (a.symm.trans b)
  | _ => exact Option.some.inj (Eq.trans (Eq.symm h1) h2)
theorem front_P {D : va_G} {cl : List vw_C} {ws : va_W} {x : Nat × va_E} {H : Heap} (h : va_P D cl (ws ++ [x]) H) : va_P D cl (x :: ws) H := va_P_perm (List.perm_append_singleton x ws) h
theorem front_D {A : Nat → Prop} {ws : va_W} {x : Nat × va_E} (h : va_D A (ws ++ [x])) : va_D A (x :: ws) := va_D_perm (List.perm_append_singleton x ws) h
def fsA : Nat → Int32 := fun j => if j = 0 then 600 else if j = 1 then 120 else if j = 2 then 4 else if j = 3 then 10 else 30
/-- the static row of first settings, outside of A -/
def zF (A : Nat → Prop) (U : State) : Prop := (va_AO "RipeHours$Member" U ∧ va_AO "RipeHours$Bank" U) ∧ ∃ t : Nat, va_Z RX5 "FIRST_SETTINGS" "[I" (.ref t) A U U.heap ∧ va_T .int t 5 (fun j => .int (fsA j)) A U U.heap
theorem zF_at {s U : State} {A B : Nat → Prop} {H : Heap} {locs : List Loc} (h : zF A s) (hS : va_S A s.heap H locs) (hW : s.WarmedH U.vm) (hU : U.heap = H) (hB : ∀ q, B q → A q) : zF B U := by
  obtain ⟨⟨m1, m2⟩, t, h5, h6⟩ := h
  have kp : ∀ a : Nat, a < s.heap.size → ¬ A a → H[a]? = s.heap[a]? := fun a p q => hS.2.1 a p q
  refine ⟨⟨m1.moved hW.alike, m2.moved hW.alike⟩, t, ?_, ?_⟩
  · rw [hU]; exact ((h5.kept kp).moved hW.alike).narrow hB
  · rw [hU]; exact ((h6.kept kp).moved hW.alike).narrow hB
theorem zF_call {U : State} {A : Nat → Prop} {g : JFrame} {mk : MethodId} {a : Array Value} (h : zF A U) : zF A (U.calling g mk a) := by
  obtain ⟨⟨m1, m2⟩, t, h5, h6⟩ := h
  exact ⟨⟨m1.moved (u := U) (U := U.calling g mk a) (Vm.Alike.refl U.vm), m2.moved (u := U) (U := U.calling g mk a) (Vm.Alike.refl U.vm)⟩, t, h5.moved (u := U) (U := U.calling g mk a) (Vm.Alike.refl U.vm), h6.moved (u := U) (U := U.calling g mk a) (Vm.Alike.refl U.vm)⟩
def zIP (D : va_G) (T : List (ClassId × FieldType)) (w : va_W) (sz : Nat) (U : State) : Prop := zW D T w sz U ∧ zF (va_A w sz) U
theorem zIP_blind {D : va_G} {T : List (ClassId × FieldType)} {w : va_W} {sz : Nat} {as : List Value} : FrameBlind (va_Pc as (zIP D T w sz)) := fun a U g mk q => by
  obtain ⟨q0, q1, q2⟩ := q
  obtain ⟨p0, p1⟩ := zW_blind (as := as) a U g mk ⟨q0, q1⟩
  exact ⟨p0, p1, zF_call q2⟩
def zIQ (D : va_G) (T : List (ClassId × FieldType)) (G : va_W → Prop) (A : Nat → Prop) : Array Value → State → Outcome → State → Prop := fun _ st oc t => (oc = .returned none ∧ ∃ w2 : va_W, G w2 ∧ zE D T w2 A t) ∧ va_F A st t
def zI (l : Launch) (D : va_G) (T : List (ClassId × FieldType)) (y : MethodName) (cy : ByteArray) (mL : Nat) (rm : Room) (b : Nat) (w : va_W) (G : va_W → Prop) (mc ms : Nat) : Prop :=
  ∀ sz, Met l y (zY y cy mL none) rm (va_Pc [.ref b] (zIP D T w sz)) (zIQ D T G (va_A w sz)) mc ms (va_A w sz)
theorem z_enterI {l : Launch} {D : va_G} {T : List (ClassId × FieldType)} {y : MethodName} {cy : ByteArray} {mL : Nat} {rm : Room} {b : Nat} {w : va_W} {G : va_W → Prop} {mc ms : Nat} (hy : plainName y.cls = true) (hn : (lg_sl [Value.ref b]).length ≤ mL)
    (body : ∀ (p : Program) (e : Env) (s : State) (m : MethodId) (below : List Frame) (meth : Method) (c : Code) (A : Nat → Prop), CallFix p m c cy mL s [Value.ref b].toArray TT y.cls → meth.sig.returnType = none → meth.locks = false → meth.name = y.name → zF A s → zNest s → (∀ q : Nat, s.heap.size ≤ q → A q) → va_K D vwCl T s → va_P D vwCl w s.heap → va_D A w → va_S A s.heap s.heap [] → ∀ ls : Array Slot, lv_has ls mL (lv_args 0 [.ref b]) → W p l e rm s m [Value.ref b].toArray below meth c s.heap [] 0 0 (MQ below (zIQ D T G A) [Value.ref b].toArray s mc ms A) (F0 m 0 ls [])) : zI l D T y cy mL rm b w G mc ms := by
  intro sz
  refine Met.ofW (cc := cy) (maxL := mL) (ret := none) hy rfl ?_
  intro p e s m args below meth c s₁ B hml hv
  obtain ⟨rfl, ⟨hsz, hP, hK, hD0, hN⟩, hF⟩ := hv
  subst hsz
  have hts := atoms_spec (ws := zY y cy mL none) B.pre
  have hD := hD0.self (sz := s.heap.size)
  have hl := lv_entry [.ref b] (n := mL) hn
  rw [lg_entry_eq]
  exact body p e s m below meth c (va_A w s.heap.size) ⟨B.exec, B.bytes, hml, findClass_of_methodNamed B.named, fun w h => hts w (List.mem_cons_of_mem _ h)⟩ B.returns B.notSynchronized (name_of_methodNamed B.named B.method).1 hF hN (fun q h => Or.inr h) hK hP hD va_S.rf _ hl
section ZI
variable {p : Program} {l : Launch} {e : Env} {R : Room} {s : State} {m : MethodId} {args : Array Value} {below : List Frame} {meth : Method} {c : Code} {H : Heap} {locs : List Loc} {cells slots : Nat} {Q : State → Prop}
variable {pc : Nat} {ls : Array Slot} {rest st0 : List Value} {A : Nat → Prop} {mc ms : Nat} {D : va_G} {T : List (ClassId × FieldType)} {cc : ByteArray} {nL index n : Nat} {own : String}
theorem z_vretI {G : va_W → Prop} {w1 : va_W} (hexec : p.tables.exec = Jvm.exec) (hb : c.code = cc) (hr : meth.sig.returnType = none) (hlocks : meth.locks = false) (hP : va_P D vwCl w1 H) (hD : va_D A w1) (hK : va_K D vwCl T s) (hS : va_S A s.heap H locs) (hG : G w1) (hdg : decode cc pc = .ok (.return_, 1)) : W p l e R s m args below meth c H locs cells slots (MQ below (zIQ D T G A) args s cells slots A) (F0 m pc ls []) :=
  W.vret hexec hb hr (fun t ht hW => ⟨⟨rfl, w1, hG, by rw [ht]; exact hP, va_K.moved hW.alike hK, hD⟩, hS.F ht⟩) hS.2.2 hdg hlocks
theorem z_goI {G : va_W → Prop} {A1 : Nat → Prop} {a : Array Value} {free : Addr → Prop} (hr : va_Run p l e R s m args below meth c H locs cells slots mc ms (F0 m pc ls st0) rest (zIQ D T G A1 a) free) (hS : va_S A s.heap H locs) (hA : ∀ q, A1 q → A q) (hf : ∀ q, free q → A q)
    (kk : ∀ (w2 : va_W) (H1 : Heap) (locs1 : List Loc), G w2 → va_P D vwCl w2 H1 → va_D A w2 → va_S A s.heap H1 locs1 → W p l e R s m args below meth c H1 locs1 (cells + mc) (slots + ms) Q (F0 m (pc + 3) ls rest)) : W p l e R s m args below meth c H locs cells slots Q (F0 m pc ls st0) := by
  intro U hU X
  obtain ⟨v, st₀, t, T', L, h0, X', hL, e1, e2, ⟨⟨hv, w2, hG, hP, hK, hD⟩, hz, hk⟩, st⟩ := hr U hU X
  cases hv
  rw [h0] at hz hk
  obtain ⟨t2, a1, b1⟩ := kk w2 T'.heap (locs ++ L) hG (by rw [e1]; exact hP) (hD.weaken (fun _ _ _ h => hA _ h))
    ⟨Nat.le_trans hS.1 (by rw [e1]; exact hz), fun q h1 h2 => by rw [e1, hk q (Nat.lt_of_lt_of_le h1 hS.1) (fun z => h2 (hA q z))]; exact hS.2.1 q h1 h2, fun q hq => by
      rcases List.mem_append.mp hq with h | h
      · exact hS.2.2 q h
      · exact hf _ (hL q h)⟩ T' rfl X'
  exact ⟨t2, st t2 a1, b1⟩
theorem z_callC {y : MethodName} {cy : ByteArray} {mL : Nat} {rm : Room} {b : Nat} {w : va_W} {G : va_W → Prop} (S : CallFix p m c cc nL s args TT own) (hM : zI l D T y cy mL rm b w G mc ms) (hl : Cond.methodLink own index y ∈ TT) (hy : zN y cy mL 0) (hR : rm.frames + 1 ≤ R.frames ∧ 8 + (mL + 11) + rm.locals ≤ R.locals) (hrc : rm.cells = mc) (hrs : rm.slots = ms) (hF : zF A s) (hN : zNest s)
    (hK : va_K D vwCl T s) (hP : va_P D vwCl w H) (hD : va_D A w) (hS : va_S A s.heap H locs) (hA : ∀ q : Nat, s.heap.size ≤ q → A q)
    (hls : ls.size = nL) (hst : st0 = .ref b :: rest) (hW : (rest.map fun v => v.category).sum ≤ 8) (hdg : decode cc pc = .ok (.invokespecial index, 3)) (hf : cells + mc ≤ R.cells ∧ slots + ms ≤ R.slots)
    (kk : ∀ (w2 : va_W) (H1 : Heap) (locs1 : List Loc), G w2 → va_P D vwCl w2 H1 → va_D A w2 → va_S A s.heap H1 locs1 → W p l e R s m args below meth c H1 locs1 (cells + mc) (slots + ms) Q (F0 m (pc + 3) ls rest)) : W p l e R s m args below meth c H locs cells slots Q (F0 m pc ls st0) := by
  obtain ⟨⟨y1, y2, y3⟩, hy1, hd⟩ := hy
  refine z_goI (va_runI (As := []) S (hM H.size) (cwI 0 S.2.2.2.2 (z_goodIn (fun w h => ?_)) rfl hrc hrs (S.2.2.2.2 _ y2) (S.2.2.2.2 _ hl) (S.2.2.2.2 _ y1) hy1 hd hR) ⟨zIP_blind, fun U hU hW2 => by
    obtain ⟨a0, a1⟩ := z_pre (as := [.ref b]) hN hK hP hD U hU hW2
    exact ⟨a0, a1, zF_at hF hS hW2 hU (z_sub hD hS hA)⟩⟩ rfl rfl hls hst (lv_room hW) hdg hf) hS (z_sub hD hS hA) (z_sub hD hS hA) kk
  rcases List.mem_cons.mp h with rfl | h
  · exact y3
  · exact h
end ZI
def mem0 : List Value := [.null, .int 0, .int 0, .int 0, .int 0, .int 0, .int 0, .int 0, .int 0, .int 0, .int 0, .int 0, .int 0]
def mem1 (q : Nat) : List Value := [.ref q, .int 0, .int 0, .int 0, .int 0, .int 0, .int 0, .int 0, .int 0, .int 0, .int 0, .int 0, .int 0]
def gMem (cI : ClassId) (b : Nat) (wr : va_W) (w2 : va_W) : Prop := ∃ q : Nat, w2 = (q, .inl (cI, 5, .inl (fun _ => 0))) :: (b, .inr (4, mem1 q)) :: wr
section XI
variable {l : Launch} {D : va_G} {cI cC cM cB cJ : ClassId} {wr : va_W}
set_option maxHeartbeats 4000000 in
set_option maxRecDepth 100000 in
theorem c_X4_init (b : Nat) : zI l D (zT cI cC cM cB cJ) yX4_init cX4_init 1 ({ frames := 1, cells := 1, slots := 5, locals := 20 } : Room) b ((b, .inr (4, mem0)) :: wr) (gMem cI b wr) 1 5 := by
  refine z_enterI (by decide) (Nat.le_of_ble_eq_true rfl) ?_
  intro p e s m below meth c A S hr hlocks hnm hF hN hA hK hP hD hS ls hl
  obtain ⟨hx, hb, hml, hown, hts⟩ := id S
  have hin : meth.name = "<init>" := hnm
  have hl : lv_has ls 1 [(0, .ref b)] := hl
  refine lv_aload_n hx hb dX4_init_0 rfl (lv_at hl 0 rfl) ?_
  refine W.objInit hx hb hown (hts _ qm_X4_3) (hts _ qi_objinit) (hts _ qc_objinit) rfl (hl.1.trans hml.symm) rfl dX4_init_1 (Nat.le_of_ble_eq_true rfl) (Nat.le_of_ble_eq_true rfl) ?_
  refine W.eq (g2 := F0 m 4 ls []) rfl ?_
  refine lv_aload_n hx hb dX4_init_4 rfl (lv_at hl 0 rfl) ?_
  refine lv_iconst (v := 5) hx hb dX4_init_5 (by decide) ?_
  refine va_newa (atype := .int) (a0 := (5, .inl (fun _ => 0))) (N' := 5) hx hb (hts _ qr_int) rfl hK hP hD hS hA (fun cA => rfl) (by decide) (by decide) (by decide) (Nat.le_of_ble_eq_true rfl) (Nat.le_of_ble_eq_true rfl) dX4_init_6 (fun q cA H hK2 hP hD hS => ?_)
  have eA : cA = cI := ra_uniq (hK2.2 4 (cA, .int) rfl).2 (hK.2 0 _ rfl).2
  rw [eA] at hP hD
  have hP := front_P hP
  have hD := front_D hD
  refine va_putF (v := .ref q) (ty := .array .int) hx hb hts inTX4 tyX4 tyX4_ok nmX4 hown hK hP hD hS 1 rfl rfl 0 (by decide) (hts _ qf_X4_9) (fun _ h9 => h9) rfl hin rfl (by decide +kernel) rfl rfl (Nat.le_of_ble_eq_true rfl) dX4_init_8 (fun H locs hP hD hS => ?_)
  exact z_vretI hx hb hr hlocks hP hD hK hS ⟨q, rfl⟩ dX4_init_11
set_option maxHeartbeats 4000000 in
set_option maxRecDepth 100000 in
theorem c_X1_init (b : Nat) : zI l D (zT cI cC cM cB cJ) yX1_init cX1_init 1 ({ frames := 1, cells := 0, slots := 0, locals := 20 } : Room) b ((b, .inr (1, [.int 0, .int 0, .int 0, .int 0, .int 0])) :: wr) (fun w2 => w2 = (b, .inr (1, [.int 0, .int 0, .int 0, .int 0, .int 0])) :: wr) 0 0 := by
  refine z_enterI (by decide) (Nat.le_of_ble_eq_true rfl) ?_
  intro p e s m below meth c A S hr hlocks hnm hF hN hA hK hP hD hS ls hl
  obtain ⟨hx, hb, hml, hown, hts⟩ := id S
  have hin : meth.name = "<init>" := hnm
  have hl : lv_has ls 1 [(0, .ref b)] := hl
  refine lv_aload_n hx hb dX1_init_0 rfl (lv_at hl 0 rfl) ?_
  refine W.objInit hx hb hown (hts _ qm_X1_3) (hts _ qi_objinit) (hts _ qc_objinit) rfl (hl.1.trans hml.symm) rfl dX1_init_1 (Nat.le_of_ble_eq_true rfl) (Nat.le_of_ble_eq_true rfl) ?_
  refine W.eq (g2 := F0 m 4 ls []) rfl ?_
  refine lv_aload_n hx hb dX1_init_4 rfl (lv_at hl 0 rfl) ?_
  refine lv_iconst (v := 0) hx hb dX1_init_5 (by decide) ?_
  refine z_put (v := .int 0) (ty := .int) (ws2 := (b, .inr (1, [.int 0, .int 0, .int 0, .int 0, .int 0])) :: wr) hx hb hts inTX1 tyX1 tyX1_ok nmX1 hown hK hP hD hS 0 rfl rfl 0 (by decide) (hts _ qf_X1_11) (fun _ h9 => h9) rfl (by decide +kernel) rfl rfl (Nat.le_of_ble_eq_true rfl) dX1_init_6 rfl (fun H locs hP hD hS => ?_)
  exact z_vretI hx hb hr hlocks hP hD hK hS rfl dX1_init_9
set_option maxHeartbeats 4000000 in
set_option maxRecDepth 100000 in
theorem c_X2_init (b : Nat) : zI l D (zT cI cC cM cB cJ) yX2_init cX2_init 1 ({ frames := 2, cells := 2, slots := 65, locals := 40 } : Room) b ((b, .inr (2, [.null, .null, .int 0])) :: wr) (fun w2 => ∃ t : Nat → Nat, t 0 = b ∧ w2 = txW cC t (fun _ => 0) 0 (fun _ => 0) wr) 2 65 := by
  refine z_enterI (by decide) (Nat.le_of_ble_eq_true rfl) ?_
  intro p e s m below meth c A S hr hlocks hnm hF hN hA hK hP hD hS ls hl
  obtain ⟨hx, hb, hml, hown, hts⟩ := id S
  have hin : meth.name = "<init>" := hnm
  have hl : lv_has ls 1 [(0, .ref b)] := hl
  refine lv_aload_n hx hb dX2_init_0 rfl (lv_at hl 0 rfl) ?_
  refine W.objInit hx hb hown (hts _ qm_X2_3) (hts _ qi_objinit) (hts _ qc_objinit) rfl (hl.1.trans hml.symm) rfl dX2_init_1 (Nat.le_of_ble_eq_true rfl) (Nat.le_of_ble_eq_true rfl) ?_
  refine W.eq (g2 := F0 m 4 ls []) rfl ?_
  refine lv_aload_n hx hb dX2_init_4 rfl (lv_at hl 0 rfl) ?_
  refine lv_bipush (v := 60) hx hb dX2_init_5 (by decide) ?_
  refine va_newa (atype := .char) (a0 := (60, .inl (fun _ => 0))) (N' := 60) hx hb (hts _ qr_char) rfl hK hP hD hS hA (fun cA => rfl) (by decide) (by decide) (by decide) (Nat.le_of_ble_eq_true rfl) (Nat.le_of_ble_eq_true rfl) dX2_init_7 (fun q cA H hK2 hP hD hS => ?_)
  have eA : cA = cC := ra_uniq (hK2.2 4 (cA, .char) rfl).2 (hK.2 1 _ rfl).2
  rw [eA] at hP hD
  have hP := front_P hP
  have hD := front_D hD
  refine va_putF (v := .ref q) (ty := .array .char) hx hb hts inTX2 tyX2 tyX2_ok nmX2 hown hK hP hD hS 1 rfl rfl 0 (by decide) (hts _ qf_X2_9) (fun _ h9 => h9) rfl hin rfl (by decide +kernel) rfl rfl (Nat.le_of_ble_eq_true rfl) dX2_init_9 (fun H locs hP hD hS => ?_)
  refine lv_aload_n hx hb dX2_init_12 rfl (lv_at hl 0 rfl) ?_
  refine va_new (ci := 1) (fs := [.int 0, .int 0, .int 0, .int 0, .int 0]) hx hb hts inTX1 tyX1 tyX1_ok hown (hts _ qk_X2_15) (hts _ qa_X1) (hts _ qn_X1) hK hP hD hS hA rfl (fun j hj => by rcases (show j = 0 ∨ j = 1 ∨ j = 2 ∨ j = 3 ∨ j = 4 by omega) with rfl | rfl | rfl | rfl | rfl <;> rfl) (Nat.le_of_ble_eq_true rfl) (Nat.le_of_ble_eq_true rfl) dX2_init_13 (fun r H hP hD hS => ?_)
  have hP := front_P hP
  have hD := front_D hD
  refine lv_dup hx hb dX2_init_16 rfl ?_
  refine z_callC S (c_X1_init r) qm_X2_17 n_X1_init ⟨(Nat.le_of_ble_eq_true rfl), (Nat.le_of_ble_eq_true rfl)⟩ rfl rfl hF hN hK hP hD hS hA hl.1 rfl (Nat.le_of_ble_eq_true rfl) dX2_init_17 ⟨(Nat.le_of_ble_eq_true rfl), (Nat.le_of_ble_eq_true rfl)⟩ (fun w2 H locs hG hP hD hS => ?_)
  subst hG
  refine va_putF (v := .ref r) (ty := .object "RipeHours$DealReader") hx hb hts inTX2 tyX2 tyX2_ok nmX2 hown hK hP hD hS 2 rfl rfl 1 (by decide) (hts _ qf_X2_18) (fun _ h9 => h9) rfl hin rfl (by decide +kernel) rfl rfl (Nat.le_of_ble_eq_true rfl) dX2_init_20 (fun H locs hP hD hS => ?_)
  have hp : List.Perm ((r, .inr (1, [.int 0, .int 0, .int 0, .int 0, .int 0])) :: (q, .inl (cC, 60, .inl (fun _ => 0))) :: (b, .inr (2, [.ref q, .ref r, .int 0])) :: wr) (txW cC (fun i => if i = 0 then b else if i = 1 then q else r) (fun _ => 0) 0 (fun _ => 0) wr) := (List.Perm.swap _ _ _).trans (((List.Perm.swap _ _ _).cons _).trans (List.Perm.swap _ _ _ |>.trans ((List.Perm.refl _))))
  exact z_vretI hx hb hr hlocks (va_P_perm hp hP) (va_D_perm hp hD) hK hS ⟨_, rfl, rfl⟩ dX2_init_23
end XI
