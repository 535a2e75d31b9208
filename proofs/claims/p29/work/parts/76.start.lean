/-! What holds at the law's entry. -/
/-- words of the tables that no contract may ask of a state moved on: the start gives them once -/
def stW : List Cond := [.fieldLinkNest RX0 22 "RipeHours" "FIRST_SETTINGS" "[I" "RipeHours", .methodLinkNest RX0 140 yX5_decayingPart "RipeHours", .arrayOver (.object "RipeHours$Member"), .arrayOver (.object "RipeHours$Bank"), .laysStatic RX5 "FIRST_SETTINGS" "[I", .laysStatic RX5 "GREATEST_SETTINGS" "[I", .laysStatic Bundle.tN "UNASSIGNED_STACK" Bundle.steD, .laysStatic Bundle.tN "SUPPRESSED_SENTINEL" Bundle.listD, .initialized Bundle.tN]
theorem stW_in : ∀ w ∈ stW, w ∈ lw_tbl := by decide +kernel
theorem zBad_in : ∀ w ∈ zBad, w ∈ lw_tbl := by decide +kernel
theorem zStr_in : ∀ w ∈ zStrs.map (fun q => Cond.stringRef RX5 q.1 q.2), w ∈ lw_tbl := by decide +kernel
/-- words of the premises -/
def stN : List Cond := [.isRef (.static Bundle.tN "UNASSIGNED_STACK" Bundle.steD), .isRef (.static Bundle.tN "SUPPRESSED_SENTINEL" Bundle.listD), .arrayOf (.static RX5 "FIRST_SETTINGS" "[I") .int, .eq (.length (.static RX5 "FIRST_SETTINGS" "[I")) (.int 5), .arrayOf (.static RX5 "GREATEST_SETTINGS" "[I") .int, .eq (.length (.static RX5 "GREATEST_SETTINGS" "[I")) (.int 5),
  .eq (.elem (.static RX5 "FIRST_SETTINGS" "[I") (.int 0)) (.int 600), .eq (.elem (.static RX5 "FIRST_SETTINGS" "[I") (.int 1)) (.int 120), .eq (.elem (.static RX5 "FIRST_SETTINGS" "[I") (.int 2)) (.int 4), .eq (.elem (.static RX5 "FIRST_SETTINGS" "[I") (.int 3)) (.int 10), .eq (.elem (.static RX5 "FIRST_SETTINGS" "[I") (.int 4)) (.int 30),
  .eq (.elem (.static RX5 "GREATEST_SETTINGS" "[I") (.int 0)) (.int 9999), .eq (.elem (.static RX5 "GREATEST_SETTINGS" "[I") (.int 1)) (.int 999), .eq (.elem (.static RX5 "GREATEST_SETTINGS" "[I") (.int 2)) (.int 20), .eq (.elem (.static RX5 "GREATEST_SETTINGS" "[I") (.int 3)) (.int 100), .eq (.elem (.static RX5 "GREATEST_SETTINGS" "[I") (.int 4)) (.int 300)]
theorem stN_in : ∀ w ∈ stN, w ∈ flatC (Jvm.Cond.and given_1 narrow_1) := by decide +kernel
theorem stS_in : ∀ w ∈ zStrs.map (fun q => Cond.exactly (.string RX5 q.1) "java/lang/String"), w ∈ flatC (Jvm.Cond.and given_1 narrow_1) := by decide +kernel
section ST
variable {s : State} {args : Array Value}
theorem st_int (h : (Cond.arrayClass .int).before args s = true) : ∃ cA, ArrOfT s cA .int ∧ va_RA s cA .int := by
  obtain ⟨c, k, comp, h1, h2, h3⟩ := Cond.arrayClass_spec h
  exact ⟨c, fun n z => ⟨fun k h => (by cases h), k, h2, comp, h3⟩, h1⟩
theorem st_char (h : (Cond.arrayClass .char).before args s = true) : ∃ cA, ArrOfT s cA .char ∧ va_RA s cA .char := by
  obtain ⟨c, k, comp, h1, h2, h3⟩ := Cond.arrayClass_spec h
  exact ⟨c, fun n z => ⟨fun k h => (by cases h), k, h2, comp, h3⟩, h1⟩
theorem st_obj {C : String} (h : (Cond.arrayOver (.object C)).before args s = true) : ∃ cA, ArrOfT s cA (.object C) ∧ va_RA s cA (.object C) := by
  obtain ⟨comp, c, k, h1, h2, h3, h4, h5⟩ := Cond.arrayOver_spec h
  exact ⟨c, fun n z => ⟨fun k h => (by cases h), k, h3, comp, h4⟩, k, comp, h3, h4, h1, h5⟩
theorem st_K (hts : ∀ w ∈ lw_tbl, w.before args s = true) : ∃ (D : va_G) (cI cC cM cB cJ : ClassId), va_K D vwCl (zT cI cC cM cB cJ) s := by
  have hT : ∀ w ∈ TT, w.before args s = true := fun w h => hts w (tt_in h)
  obtain ⟨k0, i0, u0⟩ := u_known (C := RX0) (T := TX0) (N := 9) (n := 9) hT inTX0 (hT _ qa_X0)
  obtain ⟨k1, i1, u1⟩ := u_known (C := RX1) (T := TX1) (N := 5) (n := 5) hT inTX1 (hT _ qa_X1)
  obtain ⟨k2, i2, u2⟩ := u_known (C := RX2) (T := TX2) (N := 3) (n := 3) hT inTX2 (hT _ qa_X2)
  obtain ⟨k3, i3, u3⟩ := u_known (C := RX3) (T := TX3) (N := 3) (n := 3) hT inTX3 (hT _ qa_X3)
  obtain ⟨k4, i4, u4⟩ := u_known (C := RX4) (T := TX4) (N := 13) (n := 13) hT inTX4 (hT _ qa_X4)
  obtain ⟨k5, i5, u5⟩ := u_known (C := RX5) (T := TX5) (N := 3) (n := 3) hT inTX5 (hT _ qa_X5)
  obtain ⟨cI, aI, rI⟩ := st_int (hT _ qr_int)
  obtain ⟨cC, aC, rC⟩ := st_char (hT _ qr_char)
  obtain ⟨cM, aM, rM⟩ := st_obj (C := "RipeHours$Member") (hts _ (stW_in _ (by decide +kernel)))
  obtain ⟨cB, aB, rB⟩ := st_obj (C := "RipeHours$Bank") (hts _ (stW_in _ (by decide +kernel)))
  refine ⟨(fun k => if k = 0 then k0 else if k = 1 then k1 else if k = 2 then k2 else if k = 3 then k3 else if k = 4 then k4 else k5, fun k => if k = 0 then i0 else if k = 1 then i1 else if k = 2 then i2 else if k = 3 then i3 else if k = 4 then i4 else i5), cI, cC, cM, cB, cI, fun k q hq => ?_, fun k q hq => ?_⟩
  · match k, hq with
    | 0, hq => cases hq; exact u0
    | 1, hq => cases hq; exact u1
    | 2, hq => cases hq; exact u2
    | 3, hq => cases hq; exact u3
    | 4, hq => cases hq; exact u4
    | 5, hq => cases hq; exact u5
    | k + 6, hq => simp [vwCl] at hq
  · match k, hq with
    | 0, hq => cases hq; exact ⟨aI, rI⟩
    | 1, hq => cases hq; exact ⟨aC, rC⟩
    | 2, hq => cases hq; exact ⟨aM, rM⟩
    | 3, hq => cases hq; exact ⟨aB, rB⟩
    | k + 4, hq => simp at hq
theorem st_tab {C n : String} {f : Nat → Int32} {A : Nat → Prop} (hl : (Cond.laysStatic C n "[I").before args s = true) (hini : (Cond.initialized C).before args s = true) (ha : (Cond.arrayOf (.static C n "[I") .int).before args s = true) (hn : (Cond.eq (.length (.static C n "[I")) (.int 5)).before args s = true) (he : ∀ j, j < 5 → (Cond.eq (.elem (.static C n "[I") (.int (Int32.ofNat j))) (.int (f j))).before args s = true) (hA : ∀ a : Nat, a < s.heap.size → ¬ A a) : ∃ t : Nat, va_Z C n "[I" (.ref t) A s s.heap ∧ va_T .int t 5 (fun j => .int (f j)) A s s.heap := by
  obtain ⟨t, ht, hT⟩ := va_Tof (tm := .static C n "[I") (ty := .int) (N := 5) (f := fun j => .int (f j)) (A := A) (by decide) ha (va_eqt hn) (fun j hj => va_eqt (he j hj)) hA
  exact ⟨t, va_Zof hl hini ht hA, hT⟩
end ST
/-- what holds all through the law -/
def pwEnv (p : Program) (s : State) (m : MethodId) (meth : Method) (c : Code) (b L : Nat) (xs : Nat → Int32) (D : va_G) (cI cC cM cB cJ : ClassId) : Prop := lw_At p s m meth c b L xs ∧ zJ (fun q : Nat => s.heap.size ≤ q) s ∧ zNest s ∧ va_K D vwCl (zT cI cC cM cB cJ) s
theorem st_env {p : Program} {s : State} {m : MethodId} {meth : Method} {c : Code} {b L : Nat} {xs : Nat → Int32} (C0 : lw_At p s m meth c b L xs) : ∃ (D : va_G) (cI cC cM cB cJ : ClassId), pwEnv p s m meth c b L xs D cI cC cM cB cJ ∧ zF (fun q : Nat => s.heap.size ≤ q) s := by
  obtain ⟨hx, hb, hr, hml, hown, hts, hX, hbl, hlocks, hgv⟩ := id C0
  obtain ⟨D, cI, cC, cM, cB, cJ, hK⟩ := st_K hts
  have hs := flat_of_before _ hgv
  have hA : ∀ a : Nat, a < s.heap.size → ¬ (fun q : Nat => s.heap.size ≤ q) a := fun a h => Nat.not_le.mpr h
  have N : ∀ w ∈ stN, w.before #[Value.ref b] s = true := fun w h => hs w (stN_in w h)
  have Wd : ∀ w ∈ stW, w.before #[Value.ref b] s = true := fun w h => hts w (stW_in w h)
  have ini5 : (Cond.initialized RX5).before #[Value.ref b] s = true := hts _ (tt_in qn_X5)
  have five : ∀ {P : Nat → Prop}, P 0 → P 1 → P 2 → P 3 → P 4 → ∀ j, j < 5 → P j := fun h0 h1 h2 h3 h4 j hj => lt5 h0 h1 h2 h3 h4 hj
  have G := st_tab (f := gsA) (A := fun q : Nat => s.heap.size ≤ q) (Wd (.laysStatic RX5 "GREATEST_SETTINGS" "[I") (by decide +kernel)) ini5 (N _ (by decide +kernel)) (N _ (by decide +kernel)) (five (N _ (by decide +kernel)) (N _ (by decide +kernel)) (N _ (by decide +kernel)) (N _ (by decide +kernel)) (N _ (by decide +kernel))) hA
  have F := st_tab (f := fsA) (A := fun q : Nat => s.heap.size ≤ q) (Wd (.laysStatic RX5 "FIRST_SETTINGS" "[I") (by decide +kernel)) ini5 (N _ (by decide +kernel)) (N _ (by decide +kernel)) (five (N _ (by decide +kernel)) (N _ (by decide +kernel)) (N _ (by decide +kernel)) (N _ (by decide +kernel)) (N _ (by decide +kernel))) hA
  refine ⟨D, cI, cC, cM, cB, cJ, ⟨C0, ⟨?_, ?_, fun w hw => ?_, fun q hq => ?_, G⟩, ⟨?_, trivial, trivial, trivial, ?_⟩, hK⟩, ⟨⟨va_AO.of (Wd _ (by decide +kernel)), va_AO.of (Wd _ (by decide +kernel))⟩, F⟩⟩
  · exact vx_Zqof (Wd _ (by decide +kernel)) (Wd _ (by decide +kernel)) (N _ (by decide +kernel)) hA
  · exact vx_Zqof (Wd _ (by decide +kernel)) (Wd _ (by decide +kernel)) (N _ (by decide +kernel)) hA
  · have h := hts w (zBad_in w hw)
    simp only [zBad, List.mem_cons, List.not_mem_nil, or_false] at hw
    rcases hw with rfl | rfl | rfl | rfl | rfl | rfl | rfl | rfl | rfl <;> exact va_Nw.of rfl h
  · obtain ⟨a, _, _, _, q1, _⟩ := Cond.exactly_spec (hs _ (stS_in _ (List.mem_map.mpr ⟨q, hq, rfl⟩)))
    exact ⟨a, vk_R.of (hts _ (zStr_in _ (List.mem_map.mpr ⟨q, hq, rfl⟩))) q1⟩
  · exact va_Nw.of rfl (Wd _ (by decide +kernel))
  · exact va_Nw.of rfl (Wd _ (by decide +kernel))
