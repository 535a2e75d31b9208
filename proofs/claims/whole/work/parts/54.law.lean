/-! The law's world, and the end of each of its cases. -/
abbrev outC (cJ : ClassId) (o : Nat) (fo : Nat → Int64) : Nat × va_E := (o, .inl (cJ, 1, .inr (.inl fo)))
/-- what holds all through the law -/
def lwEnv (p : Program) (s : State) (m : MethodId) (meth : Method) (c : Code) (b L : Nat) (xs : Nat → Int32) (D : va_G) (cI cC cM cB cJ : ClassId) : Prop := lw_At p s m meth c b L xs ∧ zC s ∧ zJ (fun q : Nat => s.heap.size ≤ q) s ∧ zNest s ∧ va_K D vwCl (zT cI cC cM cB cJ) s
/-- the script's next ints -/
def lwScr (xs : Nat → Int32) (L : Nat) (x4 p1 p2 p3 p4 : Int32) : Prop := (vp_in (x4 + 1) L ∧ xs (x4 + 1).toNatClampNeg = p1) ∧ (vp_in (x4 + 2) L ∧ xs (x4 + 2).toNatClampNeg = p2) ∧ (vp_in (x4 + 3) L ∧ xs (x4 + 3).toNatClampNeg = p3) ∧ (vp_in (x4 + 4) L ∧ xs (x4 + 4).toNatClampNeg = p4)
abbrev lwL (b x o : Nat) (q : Nat → Nat) (x4 : Int32) : List (Nat × Value) := [(0, .ref b), (1, .ref x), (2, .ref (q 0)), (3, .ref o), (4, .int x4)]
/-- from the end of a case on, whatever the state is then -/
def lwK (p : Program) (l : Launch) (e : Env) (s : State) (m : MethodId) (below : List Frame) (meth : Method) (c : Code) (b : Nat) (D : va_G) (cI cC cM cB cJ : ClassId) (ad t : Nat → Nat) (x : Nat) (h : Nat → Nat) (ah : Nat → Nat → Nat) (q : Nat → Nat) (o : Nat) (x4 : Int32) (C cells slots : Nat) : Prop :=
  ∀ (n : Nat) (z : Nat → Int32) (zh : Nat → Nat → Int32) (nx kp : Nat) (hi : Nat → Int32) (H : Nat → Nat → Int32) (T : Nat → Int32) (nb : Nat) (r pa ke mr : Nat → Int32) (hs : Int64) (fo : Nat → Int64), lwI C n z zh nx kp hi H T nb mr → ∀ (Hp : Heap) (locs : List Loc) (ls : Array Slot), va_P D vwCl (xw0 cI cC cM cB ad z t T (nI nb) r x h ah (nI nx) (nI kp) zh (outC cJ o fo :: moW cI q z hi T pa ke mr hs [])) Hp → va_D (fun q : Nat => s.heap.size ≤ q) (xw0 cI cC cM cB ad z t T (nI nb) r x h ah (nI nx) (nI kp) zh (outC cJ o fo :: moW cI q z hi T pa ke mr hs [])) → va_S (fun q : Nat => s.heap.size ≤ q) s.heap Hp locs → lv_has ls 9 (lwL b x o q x4) → W p l e room_1 s m #[Value.ref b] below meth c Hp locs cells slots (lw_Z below #[Value.ref b] s) (F0 m 1598 ls [])
theorem lw_perm {cI cC cM cB : ClassId} {ad t : Nat → Nat} {x : Nat} {h : Nat → Nat} {ah : Nat → Nat → Nat} {q : Nat → Nat} {z zm : Nat → Int32} {zh : Nat → Nat → Int32} {sg r hi tx pa ke mr : Nat → Int32} {sz nx kp : Int32} {hs : Int64} {u : Nat × va_E} : List.Perm (xw0 cI cC cM cB ad z t sg sz r x h ah nx kp zh (u :: moW cI q zm hi tx pa ke mr hs [])) (moW cI q zm hi tx pa ke mr hs (xw0 cI cC cM cB ad z t sg sz r x h ah nx kp zh [u])) := by
  have e1 : xw0 cI cC cM cB ad z t sg sz r x h ah nx kp zh (u :: moW cI q zm hi tx pa ke mr hs []) = xw0 cI cC cM cB ad z t sg sz r x h ah nx kp zh [u] ++ moW cI q zm hi tx pa ke mr hs [] := rfl
  have e2 : moW cI q zm hi tx pa ke mr hs (xw0 cI cC cM cB ad z t sg sz r x h ah nx kp zh [u]) = moW cI q zm hi tx pa ke mr hs [] ++ xw0 cI cC cM cB ad z t sg sz r x h ah nx kp zh [u] := rfl
  rw [e1, e2]
  exact List.perm_append_comm
section LWT
variable {p : Program} {l : Launch} {e : Env} {R : Room} {s : State} {m : MethodId} {args : Array Value} {below : List Frame} {meth : Method} {c : Code} {H : Heap} {locs : List Loc} {cells slots : Nat} {Q : State → Prop}
variable {pc : Nat} {ls : Array Slot} {rest st0 : List Value} {A : Nat → Prop} {mc ms : Nat} {D : va_G} {T : List (ClassId × FieldType)} {cc : ByteArray} {nL index n : Nat} {own : String}
variable {cI cC cM cB cJ : ClassId}
theorem z_sld (hexec : p.tables.exec = Jvm.exec) (hb : c.code = cc) {H0 : Heap} {b L : Nat} {xs : Nat → Int32} (hX : va_X b L xs s H0) (hbl : b < H0.size) (hbA : ¬ A b) (hS : va_S A H0 H locs) {i v : Int32} (hin : vp_in i L ∧ xs i.toNatClampNeg = v) (hdg : decode cc pc = .ok (.iaload, 1))
    (kk : W p l e R s m args below meth c H locs cells slots Q (F0 m (pc + 1) ls (.int v :: rest))) : W p l e R s m args below meth c H locs cells slots Q (F0 m pc ls (.int i :: .ref b :: rest)) := by
  obtain ⟨h1, rfl⟩ := hin
  exact va_sld hexec hb hX hbl hbA hS h1 hdg kk
/-- the end of a case: the answers are held against each other -/
theorem lw_tail {w : va_W} {b x o : Nat} {q : Nat → Nat} {x4 K tv bv : Int32} {fs : List Value} {fo : Nat → Int64} {off : Int} (S : CallFix p m c cc 9 s args TT RL) (hM : zM l D (zT cI cC cM cB cJ) yX6_thrown cX6_thrown 1 (some .int) ({ frames := 0, cells := 0, slots := 0, locals := 0 } : Room) [.ref (q 0)] w w (some (.int tv)) 0 0) (hR : 1 ≤ R.frames ∧ 20 ≤ R.locals) (hN : zNest s)
    (hK : va_K D vwCl (zT cI cC cM cB cJ) s) (hP : va_P D vwCl w H) (hD : va_D A w) (hS : va_S A s.heap H locs) (hA : ∀ q : Nat, s.heap.size ≤ q → A q) (he : w[140]? = some (q 0, .inr (6, fs))) (ho : w[139]? = some (outC cJ o fo)) (hf : cells ≤ R.cells ∧ slots ≤ R.slots)
    (hl : lv_has ls 9 ((5, .int K) :: lwL b x o q x4)) (hKt : tv = K) (hKv : K = 0 → fo 0 = bv.toInt64)
    (d0 : decode cc pc = .ok (.istore 6, 2)) (d2 : decode cc (pc + 2) = .ok (.aload_n 2, 1)) (d3 : decode cc (pc + 3) = .ok (.invokevirtual 94, 3)) (d6 : decode cc (pc + 6) = .ok (.iload 5, 2)) (d8 : decode cc (pc + 8) = .ok (.if_icmp .eq 5, 3)) (d13 : decode cc (pc + 13) = .ok (.iload 5, 2)) (d15 : decode cc (pc + 15) = .ok (.ifCond .ne 15, 3)) (d18 : decode cc (pc + 18) = .ok (.aload_n 3, 1)) (d19 : decode cc (pc + 19) = .ok (.iconst 0, 1)) (d20 : decode cc (pc + 20) = .ok (.laload, 1)) (d21 : decode cc (pc + 21) = .ok (.iload 6, 2)) (d23 : decode cc (pc + 23) = .ok (.i2l, 1)) (d24 : decode cc (pc + 24) = .ok (.lcmp, 1)) (d25 : decode cc (pc + 25) = .ok (.ifCond .eq 5, 3)) (d30 : decode cc (pc + 30) = .ok (.goto off, 3)) (hoff : ((pc + 30 : Nat) : Int) + off = ((1598 : Nat) : Int))
    (kk : ∀ (H1 : Heap) (locs1 : List Loc) (ls1 : Array Slot), va_P D vwCl w H1 → va_D A w → va_S A s.heap H1 locs1 → lv_has ls1 9 (lwL b x o q x4) → W p l e R s m args below meth c H1 locs1 cells slots Q (F0 m 1598 ls1 [])) : W p l e R s m args below meth c H locs cells slots Q (F0 m pc ls [.int bv]) := by
  obtain ⟨hx, hb, hml, hown, hts⟩ := id S
  refine lv_istore (lv' := (6, .int bv) :: (5, .int K) :: lwL b x o q x4) hx hb d0 hl (by decide) rfl (fun ls hl => ?_)
  refine lv_aload_n hx hb d2 rfl (lv_at hl 4 rfl) ?_
  refine z_callV1 (n := 0) (As := []) (rest := []) S hM qm_L_94 ⟨⟨qi_X6_thrown, qs_X6_thrown, qn_X6, qc_X6_thrown⟩, rfl, by decide, by decide, by decide +kernel⟩ hR rfl rfl hN hK hP hD hS hA 140 he rfl rfl hl.1 rfl (Nat.le_of_ble_eq_true rfl) d3 hf (fun H locs hP hD hS => ?_)
  refine lv_iload hx hb d6 (lv_at hl 1 rfl) ?_
  refine lv_icmp_eq (tgt := pc + 13) hx hb d8 (by omega) (fun _ => ?_) (fun q9 => absurd hKt q9)
  refine lv_iload hx hb d13 (lv_at hl 1 rfl) ?_
  refine lv_if_ne (tgt := pc + 30) hx hb d15 (by omega) (fun _ => ?_) (fun q9 => ?_)
  · refine lv_goto (tgt := 1598) hx hb d30 hoff ?_
    exact kk H locs ls hP hD hS (lv_sub hl [2, 3, 4, 5, 6] rfl)
  · refine lv_aload_n hx hb d18 rfl (lv_at hl 5 rfl) ?_
    refine lv_iconst (v := 0) hx hb d19 (by decide) ?_
    refine va_lald hx hb hK hP 139 4 (n := 1) (f := fo) ho rfl (by unfold vp_in; decide) d20 ?_
    refine lv_iload hx hb d21 (lv_at hl 0 rfl) ?_
    refine lv_i2l (v := fo 0) hx hb d23 (hKv q9).symm ?_
    refine W.eq (g2 := F0 m (pc + 24) ls [.long (fo 0), .long (fo 0)]) rfl ?_
    refine lv_lcmp0 hx hb d24 ?_
    refine lv_if_eq (tgt := pc + 30) hx hb d25 (by omega) (fun _ => ?_) (fun q8 => absurd rfl q8)
    refine lv_goto (tgt := 1598) hx hb d30 hoff ?_
    exact kk H locs ls hP hD hS (lv_sub hl [2, 3, 4, 5, 6] rfl)
end LWT
