/-! Small rows for the walks. -/
abbrev zT (cI cC cM cB cJ : ClassId) : List (ClassId × FieldType) := [(cI, .int), (cC, .char), (cM, .object "RipeHours$Member"), (cB, .object "RipeHours$Bank"), (cJ, .long)]
def bI (P : Prop) [Decidable P] : Int32 := if P then 1 else 0
theorem bI_t {P : Prop} [Decidable P] (h : P) : bI P = 1 := if_pos h
theorem bI_f {P : Prop} [Decidable P] (h : ¬ P) : bI P = 0 := if_neg h
theorem bI_0 {P : Prop} [Decidable P] (h : bI P = 0) : ¬ P := fun q => absurd ((bI_t q).symm.trans h) (by decide)
theorem bI_1 {P : Prop} [Decidable P] (h : ¬ bI P = 0) : P := by
  by_cases q : P
  · exact q
  · exact absurd (bI_f q) h
theorem bI_0n {P : Prop} [Decidable P] (h : bI (¬ P) = 0) : P := Decidable.not_not.mp (bI_0 h)
theorem z_pos0 {x : Int32} (h : ¬ x < 1) : ¬ x = 0 := fun q => h (by rw [q]; decide)
theorem zb_n {x : Int32} (h : x = 0 ∨ x = 1) : narrow .boolean (.int x) = .int x := by rcases h with rfl | rfl <;> rfl
theorem zb_f {x : Int32} (h : x = 0 ∨ x = 1) : fits .boolean (.int x) = true := by rcases h with rfl | rfl <;> rfl
theorem bI_n0 {P : Prop} [Decidable P] (h : P) : ¬ bI P = 0 := fun q => bI_0 q h
theorem bI_nr (P : Prop) [Decidable P] : narrow .boolean (.int (bI P)) = .int (bI P) := by
  by_cases q : P
  · rw [bI_t q]; rfl
  · rw [bI_f q]; rfl
theorem bI_iff {P Q : Prop} [Decidable P] [Decidable Q] (h : P ↔ Q) : bI P = bI Q := by
  by_cases q : P
  · rw [bI_t q, bI_t (h.mp q)]
  · rw [bI_f q, bI_f (fun z => q (h.mpr z))]
theorem z_lt {x y : Int32} (h : ¬ y ≤ x) : x < y := Int32.not_le.mp h
theorem z_nlt {x y : Int32} (h : y ≤ x) : ¬ x < y := Int32.not_lt.mpr h
theorem z_le {x y : Int32} (h : ¬ x < y) : y ≤ x := Int32.not_lt.mp h
theorem z_nle {x y : Int32} (h : x < y) : ¬ y ≤ x := Int32.not_le.mpr h
theorem va_P_eq {D : va_G} {cl : List vw_C} {w w2 : va_W} {H : Heap} (e : w = w2) (h : va_P D cl w H) : va_P D cl w2 H := e ▸ h
theorem va_D_eq {A : Nat → Prop} {w w2 : va_W} (e : w = w2) (h : va_D A w) : va_D A w2 := e ▸ h
theorem z_ixw {i : Int32} {k : Nat} (hi : i = nI k) (hk : k < 2 ^ 31) {α : Type} (F : Nat → α) {r : α} (h : F k = r) : F i.toNatClampNeg = r := by
  rw [hi, nI_clamp hk]; exact h
theorem z_rf {ad : Nat → Nat} {i : Int32} {k : Nat} (hi : i = nI k) (hk : k < 2 ^ 31 := by omega) : va_rf ((fun j => some (ad (3 + j))) i.toNatClampNeg) = .ref (ad (3 + k)) := by
  rw [hi, nI_clamp hk]; rfl
theorem bk_rs {cI cM : ClassId} {ad : Nat → Nat} {z : Nat → Int32} {wr : va_W} {k : Nat} {x : Nat × va_E} : (bkW cI cM ad z wr).set (19 + k) x = bkW cI cM ad z (wr.set k x) := by
  rw [show 19 + k = k + 1 + 1 + 1 + 1 + 1 + 1 + 1 + 1 + 1 + 1 + 1 + 1 + 1 + 1 + 1 + 1 + 1 + 1 + 1 by omega]
  simp only [bkW, bkL, List.set_cons_succ]
section Z6
variable {p : Program} {l : Launch} {e : Env} {R : Room} {s : State} {m : MethodId} {args : Array Value} {below : List Frame} {meth : Method} {c : Code} {H : Heap} {locs : List Loc} {cells slots : Nat} {Q : State → Prop} {pc : Nat} {ls : Array Slot} {rest : List Value}
theorem z_top {v v2 : Value} (h : v = v2) (k : W p l e R s m args below meth c H locs cells slots Q (F0 m pc ls (v2 :: rest))) : W p l e R s m args below meth c H locs cells slots Q (F0 m pc ls (v :: rest)) := h ▸ k
end Z6
theorem bfs_s2 {ad : Nat → Nat} {z : Nat → Int32} {v : Int32} : (bfs ad z).set 2 (.int v) = bfs ad (upd z 5 v) := by
  simp only [bfs, List.set, upd_ne (f := z) (x := v) (show (6 : Nat) ≠ 5 by decide), upd_ne (f := z) (x := v) (show (7 : Nat) ≠ 5 by decide), upd_ne (f := z) (x := v) (show (8 : Nat) ≠ 5 by decide), upd_ne (f := z) (x := v) (show (9 : Nat) ≠ 5 by decide), upd_ne (f := z) (x := v) (show (10 : Nat) ≠ 5 by decide), upd_ne (f := z) (x := v) (show (11 : Nat) ≠ 5 by decide), upd_eq (f := z) (x := v) (rfl : 5 = 5)]
theorem bfs_s3 {ad : Nat → Nat} {z : Nat → Int32} {v : Int32} : (bfs ad z).set 3 (.int v) = bfs ad (upd z 6 v) := by
  simp only [bfs, List.set, upd_ne (f := z) (x := v) (show (5 : Nat) ≠ 6 by decide), upd_ne (f := z) (x := v) (show (7 : Nat) ≠ 6 by decide), upd_ne (f := z) (x := v) (show (8 : Nat) ≠ 6 by decide), upd_ne (f := z) (x := v) (show (9 : Nat) ≠ 6 by decide), upd_ne (f := z) (x := v) (show (10 : Nat) ≠ 6 by decide), upd_ne (f := z) (x := v) (show (11 : Nat) ≠ 6 by decide), upd_eq (f := z) (x := v) (rfl : 6 = 6)]
theorem bfs_s4 {ad : Nat → Nat} {z : Nat → Int32} {v : Int32} : (bfs ad z).set 4 (.int v) = bfs ad (upd z 7 v) := by
  simp only [bfs, List.set, upd_ne (f := z) (x := v) (show (5 : Nat) ≠ 7 by decide), upd_ne (f := z) (x := v) (show (6 : Nat) ≠ 7 by decide), upd_ne (f := z) (x := v) (show (8 : Nat) ≠ 7 by decide), upd_ne (f := z) (x := v) (show (9 : Nat) ≠ 7 by decide), upd_ne (f := z) (x := v) (show (10 : Nat) ≠ 7 by decide), upd_ne (f := z) (x := v) (show (11 : Nat) ≠ 7 by decide), upd_eq (f := z) (x := v) (rfl : 7 = 7)]
theorem bfs_s5 {ad : Nat → Nat} {z : Nat → Int32} {v : Int32} : (bfs ad z).set 5 (.int v) = bfs ad (upd z 8 v) := by
  simp only [bfs, List.set, upd_ne (f := z) (x := v) (show (5 : Nat) ≠ 8 by decide), upd_ne (f := z) (x := v) (show (6 : Nat) ≠ 8 by decide), upd_ne (f := z) (x := v) (show (7 : Nat) ≠ 8 by decide), upd_ne (f := z) (x := v) (show (9 : Nat) ≠ 8 by decide), upd_ne (f := z) (x := v) (show (10 : Nat) ≠ 8 by decide), upd_ne (f := z) (x := v) (show (11 : Nat) ≠ 8 by decide), upd_eq (f := z) (x := v) (rfl : 8 = 8)]
theorem bfs_s6 {ad : Nat → Nat} {z : Nat → Int32} {v : Int32} : (bfs ad z).set 6 (.int v) = bfs ad (upd z 9 v) := by
  simp only [bfs, List.set, upd_ne (f := z) (x := v) (show (5 : Nat) ≠ 9 by decide), upd_ne (f := z) (x := v) (show (6 : Nat) ≠ 9 by decide), upd_ne (f := z) (x := v) (show (7 : Nat) ≠ 9 by decide), upd_ne (f := z) (x := v) (show (8 : Nat) ≠ 9 by decide), upd_ne (f := z) (x := v) (show (10 : Nat) ≠ 9 by decide), upd_ne (f := z) (x := v) (show (11 : Nat) ≠ 9 by decide), upd_eq (f := z) (x := v) (rfl : 9 = 9)]
theorem bfs_s7 {ad : Nat → Nat} {z : Nat → Int32} {v : Int32} : (bfs ad z).set 7 (.int v) = bfs ad (upd z 10 v) := by
  simp only [bfs, List.set, upd_ne (f := z) (x := v) (show (5 : Nat) ≠ 10 by decide), upd_ne (f := z) (x := v) (show (6 : Nat) ≠ 10 by decide), upd_ne (f := z) (x := v) (show (7 : Nat) ≠ 10 by decide), upd_ne (f := z) (x := v) (show (8 : Nat) ≠ 10 by decide), upd_ne (f := z) (x := v) (show (9 : Nat) ≠ 10 by decide), upd_ne (f := z) (x := v) (show (11 : Nat) ≠ 10 by decide), upd_eq (f := z) (x := v) (rfl : 10 = 10)]
theorem bfs_s8 {ad : Nat → Nat} {z : Nat → Int32} {v : Int32} : (bfs ad z).set 8 (.int v) = bfs ad (upd z 11 v) := by
  simp only [bfs, List.set, upd_ne (f := z) (x := v) (show (5 : Nat) ≠ 11 by decide), upd_ne (f := z) (x := v) (show (6 : Nat) ≠ 11 by decide), upd_ne (f := z) (x := v) (show (7 : Nat) ≠ 11 by decide), upd_ne (f := z) (x := v) (show (8 : Nat) ≠ 11 by decide), upd_ne (f := z) (x := v) (show (9 : Nat) ≠ 11 by decide), upd_ne (f := z) (x := v) (show (10 : Nat) ≠ 11 by decide), upd_eq (f := z) (x := v) (rfl : 11 = 11)]
theorem mfs_s1 {ad : Nat → Nat} {z : Nat → Int32} {v : Int32} {j : Nat} (hj : j < 8) : (mfs ad z j).set 1 (.int v) = mfs ad (upd z (14 + 16 * j) v) j := by
  simp only [mfs, List.set, upd_ne (f := z) (x := v) (show 14 + 16 * j + 4 ≠ 14 + 16 * j by omega), upd_ne (f := z) (x := v) (show 14 + 16 * j + 1 ≠ 14 + 16 * j by omega), upd_ne (f := z) (x := v) (show 14 + 16 * j + 2 ≠ 14 + 16 * j by omega), upd_ne (f := z) (x := v) (show 14 + 16 * j + 3 ≠ 14 + 16 * j by omega), upd_ne (f := z) (x := v) (show 14 + 16 * j + 5 ≠ 14 + 16 * j by omega), upd_ne (f := z) (x := v) (show 14 + 16 * j + 6 ≠ 14 + 16 * j by omega), upd_ne (f := z) (x := v) (show 14 + 16 * j + 7 ≠ 14 + 16 * j by omega), upd_ne (f := z) (x := v) (show 14 + 16 * j + 8 ≠ 14 + 16 * j by omega), upd_ne (f := z) (x := v) (show 14 + 16 * j + 9 ≠ 14 + 16 * j by omega), upd_ne (f := z) (x := v) (show 14 + 16 * j + 10 ≠ 14 + 16 * j by omega), upd_ne (f := z) (x := v) (show 142 + j ≠ 14 + 16 * j by omega), upd_eq (f := z) (x := v) (rfl : 14 + 16 * j = 14 + 16 * j)]
theorem mfs_s2 {ad : Nat → Nat} {z : Nat → Int32} {v : Int32} {j : Nat} (hj : j < 8) : (mfs ad z j).set 2 (.int v) = mfs ad (upd z (14 + 16 * j + 4) v) j := by
  simp only [mfs, List.set, upd_ne (f := z) (x := v) (show 14 + 16 * j ≠ 14 + 16 * j + 4 by omega), upd_ne (f := z) (x := v) (show 14 + 16 * j + 1 ≠ 14 + 16 * j + 4 by omega), upd_ne (f := z) (x := v) (show 14 + 16 * j + 2 ≠ 14 + 16 * j + 4 by omega), upd_ne (f := z) (x := v) (show 14 + 16 * j + 3 ≠ 14 + 16 * j + 4 by omega), upd_ne (f := z) (x := v) (show 14 + 16 * j + 5 ≠ 14 + 16 * j + 4 by omega), upd_ne (f := z) (x := v) (show 14 + 16 * j + 6 ≠ 14 + 16 * j + 4 by omega), upd_ne (f := z) (x := v) (show 14 + 16 * j + 7 ≠ 14 + 16 * j + 4 by omega), upd_ne (f := z) (x := v) (show 14 + 16 * j + 8 ≠ 14 + 16 * j + 4 by omega), upd_ne (f := z) (x := v) (show 14 + 16 * j + 9 ≠ 14 + 16 * j + 4 by omega), upd_ne (f := z) (x := v) (show 14 + 16 * j + 10 ≠ 14 + 16 * j + 4 by omega), upd_ne (f := z) (x := v) (show 142 + j ≠ 14 + 16 * j + 4 by omega), upd_eq (f := z) (x := v) (rfl : 14 + 16 * j + 4 = 14 + 16 * j + 4)]
theorem mfs_s3 {ad : Nat → Nat} {z : Nat → Int32} {v : Int32} {j : Nat} (hj : j < 8) : (mfs ad z j).set 3 (.int v) = mfs ad (upd z (14 + 16 * j + 1) v) j := by
  simp only [mfs, List.set, upd_ne (f := z) (x := v) (show 14 + 16 * j ≠ 14 + 16 * j + 1 by omega), upd_ne (f := z) (x := v) (show 14 + 16 * j + 4 ≠ 14 + 16 * j + 1 by omega), upd_ne (f := z) (x := v) (show 14 + 16 * j + 2 ≠ 14 + 16 * j + 1 by omega), upd_ne (f := z) (x := v) (show 14 + 16 * j + 3 ≠ 14 + 16 * j + 1 by omega), upd_ne (f := z) (x := v) (show 14 + 16 * j + 5 ≠ 14 + 16 * j + 1 by omega), upd_ne (f := z) (x := v) (show 14 + 16 * j + 6 ≠ 14 + 16 * j + 1 by omega), upd_ne (f := z) (x := v) (show 14 + 16 * j + 7 ≠ 14 + 16 * j + 1 by omega), upd_ne (f := z) (x := v) (show 14 + 16 * j + 8 ≠ 14 + 16 * j + 1 by omega), upd_ne (f := z) (x := v) (show 14 + 16 * j + 9 ≠ 14 + 16 * j + 1 by omega), upd_ne (f := z) (x := v) (show 14 + 16 * j + 10 ≠ 14 + 16 * j + 1 by omega), upd_ne (f := z) (x := v) (show 142 + j ≠ 14 + 16 * j + 1 by omega), upd_eq (f := z) (x := v) (rfl : 14 + 16 * j + 1 = 14 + 16 * j + 1)]
theorem mfs_s4 {ad : Nat → Nat} {z : Nat → Int32} {v : Int32} {j : Nat} (hj : j < 8) : (mfs ad z j).set 4 (.int v) = mfs ad (upd z (14 + 16 * j + 2) v) j := by
  simp only [mfs, List.set, upd_ne (f := z) (x := v) (show 14 + 16 * j ≠ 14 + 16 * j + 2 by omega), upd_ne (f := z) (x := v) (show 14 + 16 * j + 4 ≠ 14 + 16 * j + 2 by omega), upd_ne (f := z) (x := v) (show 14 + 16 * j + 1 ≠ 14 + 16 * j + 2 by omega), upd_ne (f := z) (x := v) (show 14 + 16 * j + 3 ≠ 14 + 16 * j + 2 by omega), upd_ne (f := z) (x := v) (show 14 + 16 * j + 5 ≠ 14 + 16 * j + 2 by omega), upd_ne (f := z) (x := v) (show 14 + 16 * j + 6 ≠ 14 + 16 * j + 2 by omega), upd_ne (f := z) (x := v) (show 14 + 16 * j + 7 ≠ 14 + 16 * j + 2 by omega), upd_ne (f := z) (x := v) (show 14 + 16 * j + 8 ≠ 14 + 16 * j + 2 by omega), upd_ne (f := z) (x := v) (show 14 + 16 * j + 9 ≠ 14 + 16 * j + 2 by omega), upd_ne (f := z) (x := v) (show 14 + 16 * j + 10 ≠ 14 + 16 * j + 2 by omega), upd_ne (f := z) (x := v) (show 142 + j ≠ 14 + 16 * j + 2 by omega), upd_eq (f := z) (x := v) (rfl : 14 + 16 * j + 2 = 14 + 16 * j + 2)]
theorem mfs_s5 {ad : Nat → Nat} {z : Nat → Int32} {v : Int32} {j : Nat} (hj : j < 8) : (mfs ad z j).set 5 (.int v) = mfs ad (upd z (14 + 16 * j + 3) v) j := by
  simp only [mfs, List.set, upd_ne (f := z) (x := v) (show 14 + 16 * j ≠ 14 + 16 * j + 3 by omega), upd_ne (f := z) (x := v) (show 14 + 16 * j + 4 ≠ 14 + 16 * j + 3 by omega), upd_ne (f := z) (x := v) (show 14 + 16 * j + 1 ≠ 14 + 16 * j + 3 by omega), upd_ne (f := z) (x := v) (show 14 + 16 * j + 2 ≠ 14 + 16 * j + 3 by omega), upd_ne (f := z) (x := v) (show 14 + 16 * j + 5 ≠ 14 + 16 * j + 3 by omega), upd_ne (f := z) (x := v) (show 14 + 16 * j + 6 ≠ 14 + 16 * j + 3 by omega), upd_ne (f := z) (x := v) (show 14 + 16 * j + 7 ≠ 14 + 16 * j + 3 by omega), upd_ne (f := z) (x := v) (show 14 + 16 * j + 8 ≠ 14 + 16 * j + 3 by omega), upd_ne (f := z) (x := v) (show 14 + 16 * j + 9 ≠ 14 + 16 * j + 3 by omega), upd_ne (f := z) (x := v) (show 14 + 16 * j + 10 ≠ 14 + 16 * j + 3 by omega), upd_ne (f := z) (x := v) (show 142 + j ≠ 14 + 16 * j + 3 by omega), upd_eq (f := z) (x := v) (rfl : 14 + 16 * j + 3 = 14 + 16 * j + 3)]
theorem mfs_s6 {ad : Nat → Nat} {z : Nat → Int32} {v : Int32} {j : Nat} (hj : j < 8) : (mfs ad z j).set 6 (.int v) = mfs ad (upd z (14 + 16 * j + 5) v) j := by
  simp only [mfs, List.set, upd_ne (f := z) (x := v) (show 14 + 16 * j ≠ 14 + 16 * j + 5 by omega), upd_ne (f := z) (x := v) (show 14 + 16 * j + 4 ≠ 14 + 16 * j + 5 by omega), upd_ne (f := z) (x := v) (show 14 + 16 * j + 1 ≠ 14 + 16 * j + 5 by omega), upd_ne (f := z) (x := v) (show 14 + 16 * j + 2 ≠ 14 + 16 * j + 5 by omega), upd_ne (f := z) (x := v) (show 14 + 16 * j + 3 ≠ 14 + 16 * j + 5 by omega), upd_ne (f := z) (x := v) (show 14 + 16 * j + 6 ≠ 14 + 16 * j + 5 by omega), upd_ne (f := z) (x := v) (show 14 + 16 * j + 7 ≠ 14 + 16 * j + 5 by omega), upd_ne (f := z) (x := v) (show 14 + 16 * j + 8 ≠ 14 + 16 * j + 5 by omega), upd_ne (f := z) (x := v) (show 14 + 16 * j + 9 ≠ 14 + 16 * j + 5 by omega), upd_ne (f := z) (x := v) (show 14 + 16 * j + 10 ≠ 14 + 16 * j + 5 by omega), upd_ne (f := z) (x := v) (show 142 + j ≠ 14 + 16 * j + 5 by omega), upd_eq (f := z) (x := v) (rfl : 14 + 16 * j + 5 = 14 + 16 * j + 5)]
theorem mfs_s7 {ad : Nat → Nat} {z : Nat → Int32} {v : Int32} {j : Nat} (hj : j < 8) : (mfs ad z j).set 7 (.int v) = mfs ad (upd z (14 + 16 * j + 6) v) j := by
  simp only [mfs, List.set, upd_ne (f := z) (x := v) (show 14 + 16 * j ≠ 14 + 16 * j + 6 by omega), upd_ne (f := z) (x := v) (show 14 + 16 * j + 4 ≠ 14 + 16 * j + 6 by omega), upd_ne (f := z) (x := v) (show 14 + 16 * j + 1 ≠ 14 + 16 * j + 6 by omega), upd_ne (f := z) (x := v) (show 14 + 16 * j + 2 ≠ 14 + 16 * j + 6 by omega), upd_ne (f := z) (x := v) (show 14 + 16 * j + 3 ≠ 14 + 16 * j + 6 by omega), upd_ne (f := z) (x := v) (show 14 + 16 * j + 5 ≠ 14 + 16 * j + 6 by omega), upd_ne (f := z) (x := v) (show 14 + 16 * j + 7 ≠ 14 + 16 * j + 6 by omega), upd_ne (f := z) (x := v) (show 14 + 16 * j + 8 ≠ 14 + 16 * j + 6 by omega), upd_ne (f := z) (x := v) (show 14 + 16 * j + 9 ≠ 14 + 16 * j + 6 by omega), upd_ne (f := z) (x := v) (show 14 + 16 * j + 10 ≠ 14 + 16 * j + 6 by omega), upd_ne (f := z) (x := v) (show 142 + j ≠ 14 + 16 * j + 6 by omega), upd_eq (f := z) (x := v) (rfl : 14 + 16 * j + 6 = 14 + 16 * j + 6)]
theorem mfs_s8 {ad : Nat → Nat} {z : Nat → Int32} {v : Int32} {j : Nat} (hj : j < 8) : (mfs ad z j).set 8 (.int v) = mfs ad (upd z (14 + 16 * j + 7) v) j := by
  simp only [mfs, List.set, upd_ne (f := z) (x := v) (show 14 + 16 * j ≠ 14 + 16 * j + 7 by omega), upd_ne (f := z) (x := v) (show 14 + 16 * j + 4 ≠ 14 + 16 * j + 7 by omega), upd_ne (f := z) (x := v) (show 14 + 16 * j + 1 ≠ 14 + 16 * j + 7 by omega), upd_ne (f := z) (x := v) (show 14 + 16 * j + 2 ≠ 14 + 16 * j + 7 by omega), upd_ne (f := z) (x := v) (show 14 + 16 * j + 3 ≠ 14 + 16 * j + 7 by omega), upd_ne (f := z) (x := v) (show 14 + 16 * j + 5 ≠ 14 + 16 * j + 7 by omega), upd_ne (f := z) (x := v) (show 14 + 16 * j + 6 ≠ 14 + 16 * j + 7 by omega), upd_ne (f := z) (x := v) (show 14 + 16 * j + 8 ≠ 14 + 16 * j + 7 by omega), upd_ne (f := z) (x := v) (show 14 + 16 * j + 9 ≠ 14 + 16 * j + 7 by omega), upd_ne (f := z) (x := v) (show 14 + 16 * j + 10 ≠ 14 + 16 * j + 7 by omega), upd_ne (f := z) (x := v) (show 142 + j ≠ 14 + 16 * j + 7 by omega), upd_eq (f := z) (x := v) (rfl : 14 + 16 * j + 7 = 14 + 16 * j + 7)]
theorem mfs_s9 {ad : Nat → Nat} {z : Nat → Int32} {v : Int32} {j : Nat} (hj : j < 8) : (mfs ad z j).set 9 (.int v) = mfs ad (upd z (14 + 16 * j + 8) v) j := by
  simp only [mfs, List.set, upd_ne (f := z) (x := v) (show 14 + 16 * j ≠ 14 + 16 * j + 8 by omega), upd_ne (f := z) (x := v) (show 14 + 16 * j + 4 ≠ 14 + 16 * j + 8 by omega), upd_ne (f := z) (x := v) (show 14 + 16 * j + 1 ≠ 14 + 16 * j + 8 by omega), upd_ne (f := z) (x := v) (show 14 + 16 * j + 2 ≠ 14 + 16 * j + 8 by omega), upd_ne (f := z) (x := v) (show 14 + 16 * j + 3 ≠ 14 + 16 * j + 8 by omega), upd_ne (f := z) (x := v) (show 14 + 16 * j + 5 ≠ 14 + 16 * j + 8 by omega), upd_ne (f := z) (x := v) (show 14 + 16 * j + 6 ≠ 14 + 16 * j + 8 by omega), upd_ne (f := z) (x := v) (show 14 + 16 * j + 7 ≠ 14 + 16 * j + 8 by omega), upd_ne (f := z) (x := v) (show 14 + 16 * j + 9 ≠ 14 + 16 * j + 8 by omega), upd_ne (f := z) (x := v) (show 14 + 16 * j + 10 ≠ 14 + 16 * j + 8 by omega), upd_ne (f := z) (x := v) (show 142 + j ≠ 14 + 16 * j + 8 by omega), upd_eq (f := z) (x := v) (rfl : 14 + 16 * j + 8 = 14 + 16 * j + 8)]
theorem mfs_s10 {ad : Nat → Nat} {z : Nat → Int32} {v : Int32} {j : Nat} (hj : j < 8) : (mfs ad z j).set 10 (.int v) = mfs ad (upd z (14 + 16 * j + 9) v) j := by
  simp only [mfs, List.set, upd_ne (f := z) (x := v) (show 14 + 16 * j ≠ 14 + 16 * j + 9 by omega), upd_ne (f := z) (x := v) (show 14 + 16 * j + 4 ≠ 14 + 16 * j + 9 by omega), upd_ne (f := z) (x := v) (show 14 + 16 * j + 1 ≠ 14 + 16 * j + 9 by omega), upd_ne (f := z) (x := v) (show 14 + 16 * j + 2 ≠ 14 + 16 * j + 9 by omega), upd_ne (f := z) (x := v) (show 14 + 16 * j + 3 ≠ 14 + 16 * j + 9 by omega), upd_ne (f := z) (x := v) (show 14 + 16 * j + 5 ≠ 14 + 16 * j + 9 by omega), upd_ne (f := z) (x := v) (show 14 + 16 * j + 6 ≠ 14 + 16 * j + 9 by omega), upd_ne (f := z) (x := v) (show 14 + 16 * j + 7 ≠ 14 + 16 * j + 9 by omega), upd_ne (f := z) (x := v) (show 14 + 16 * j + 8 ≠ 14 + 16 * j + 9 by omega), upd_ne (f := z) (x := v) (show 14 + 16 * j + 10 ≠ 14 + 16 * j + 9 by omega), upd_ne (f := z) (x := v) (show 142 + j ≠ 14 + 16 * j + 9 by omega), upd_eq (f := z) (x := v) (rfl : 14 + 16 * j + 9 = 14 + 16 * j + 9)]
theorem mfs_s11 {ad : Nat → Nat} {z : Nat → Int32} {v : Int32} {j : Nat} (hj : j < 8) : (mfs ad z j).set 11 (.int v) = mfs ad (upd z (14 + 16 * j + 10) v) j := by
  simp only [mfs, List.set, upd_ne (f := z) (x := v) (show 14 + 16 * j ≠ 14 + 16 * j + 10 by omega), upd_ne (f := z) (x := v) (show 14 + 16 * j + 4 ≠ 14 + 16 * j + 10 by omega), upd_ne (f := z) (x := v) (show 14 + 16 * j + 1 ≠ 14 + 16 * j + 10 by omega), upd_ne (f := z) (x := v) (show 14 + 16 * j + 2 ≠ 14 + 16 * j + 10 by omega), upd_ne (f := z) (x := v) (show 14 + 16 * j + 3 ≠ 14 + 16 * j + 10 by omega), upd_ne (f := z) (x := v) (show 14 + 16 * j + 5 ≠ 14 + 16 * j + 10 by omega), upd_ne (f := z) (x := v) (show 14 + 16 * j + 6 ≠ 14 + 16 * j + 10 by omega), upd_ne (f := z) (x := v) (show 14 + 16 * j + 7 ≠ 14 + 16 * j + 10 by omega), upd_ne (f := z) (x := v) (show 14 + 16 * j + 8 ≠ 14 + 16 * j + 10 by omega), upd_ne (f := z) (x := v) (show 14 + 16 * j + 9 ≠ 14 + 16 * j + 10 by omega), upd_ne (f := z) (x := v) (show 142 + j ≠ 14 + 16 * j + 10 by omega), upd_eq (f := z) (x := v) (rfl : 14 + 16 * j + 10 = 14 + 16 * j + 10)]
theorem mfs_s12 {ad : Nat → Nat} {z : Nat → Int32} {v : Int32} {j : Nat} (hj : j < 8) : (mfs ad z j).set 12 (.int v) = mfs ad (upd z (142 + j) v) j := by
  simp only [mfs, List.set, upd_ne (f := z) (x := v) (show 14 + 16 * j ≠ 142 + j by omega), upd_ne (f := z) (x := v) (show 14 + 16 * j + 4 ≠ 142 + j by omega), upd_ne (f := z) (x := v) (show 14 + 16 * j + 1 ≠ 142 + j by omega), upd_ne (f := z) (x := v) (show 14 + 16 * j + 2 ≠ 142 + j by omega), upd_ne (f := z) (x := v) (show 14 + 16 * j + 3 ≠ 142 + j by omega), upd_ne (f := z) (x := v) (show 14 + 16 * j + 5 ≠ 142 + j by omega), upd_ne (f := z) (x := v) (show 14 + 16 * j + 6 ≠ 142 + j by omega), upd_ne (f := z) (x := v) (show 14 + 16 * j + 7 ≠ 142 + j by omega), upd_ne (f := z) (x := v) (show 14 + 16 * j + 8 ≠ 142 + j by omega), upd_ne (f := z) (x := v) (show 14 + 16 * j + 9 ≠ 142 + j by omega), upd_ne (f := z) (x := v) (show 14 + 16 * j + 10 ≠ 142 + j by omega), upd_eq (f := z) (x := v) (rfl : 142 + j = 142 + j)]
theorem v_X0_admit : zV yX0_admit RX0 cX0_admit 3 (some .int) 0 := ⟨⟨qi_X0_admit, qs_X0_admit, qn_X0, qc_X0_admit⟩, rfl, by decide, by decide, by decide +kernel⟩
theorem v_X0_allowsDeal : zV yX0_allowsDeal RX0 cX0_allowsDeal 5 (some .boolean) 4 := ⟨⟨qi_X0_allowsDeal, qs_X0_allowsDeal, qn_X0, qc_X0_allowsDeal⟩, rfl, by decide, by decide, by decide +kernel⟩
theorem v_X0_allowsMotion : zV yX0_allowsMotion RX0 cX0_allowsMotion 3 (some .boolean) 2 := ⟨⟨qi_X0_allowsMotion, qs_X0_allowsMotion, qn_X0, qc_X0_allowsMotion⟩, rfl, by decide, by decide, by decide +kernel⟩
theorem v_X0_areBothThere : zV yX0_areBothThere RX0 cX0_areBothThere 3 (some .boolean) 2 := ⟨⟨qi_X0_areBothThere, qs_X0_areBothThere, qn_X0, qc_X0_areBothThere⟩, rfl, by decide, by decide, by decide +kernel⟩
theorem v_X0_canPay : zV yX0_canPay RX0 cX0_canPay 3 (some .boolean) 2 := ⟨⟨qi_X0_canPay, qs_X0_canPay, qn_X0, qc_X0_canPay⟩, rfl, by decide, by decide, by decide +kernel⟩
theorem v_X0_canVote : zV yX0_canVote RX0 cX0_canVote 2 (some .boolean) 1 := ⟨⟨qi_X0_canVote, qs_X0_canVote, qn_X0, qc_X0_canVote⟩, rfl, by decide, by decide, by decide +kernel⟩
theorem v_X0_cheapestGiver : zV yX0_cheapestGiver RX0 cX0_cheapestGiver 6 (some .int) 3 := ⟨⟨qi_X0_cheapestGiver, qs_X0_cheapestGiver, qn_X0, qc_X0_cheapestGiver⟩, rfl, by decide, by decide, by decide +kernel⟩
theorem v_X0_copyFrom : zV yX0_copyFrom RX0 cX0_copyFrom 3 none 1 := ⟨⟨qi_X0_copyFrom, qs_X0_copyFrom, qn_X0, qc_X0_copyFrom⟩, rfl, by decide, by decide, by decide +kernel⟩
theorem v_X0_countBallots : zV yX0_countBallots RX0 cX0_countBallots 4 (some .int) 1 := ⟨⟨qi_X0_countBallots, qs_X0_countBallots, qn_X0, qc_X0_countBallots⟩, rfl, by decide, by decide, by decide +kernel⟩
theorem v_X0_countThere : zV yX0_countThere RX0 cX0_countThere 3 (some .int) 0 := ⟨⟨qi_X0_countThere, qs_X0_countThere, qn_X0, qc_X0_countThere⟩, rfl, by decide, by decide, by decide +kernel⟩
theorem v_X0_countVoters : zV yX0_countVoters RX0 cX0_countVoters 1 (some .int) 0 := ⟨⟨qi_X0_countVoters, qs_X0_countVoters, qn_X0, qc_X0_countVoters⟩, rfl, by decide, by decide, by decide +kernel⟩
theorem v_X0_dismiss : zV yX0_dismiss RX0 cX0_dismiss 4 (some .int) 1 := ⟨⟨qi_X0_dismiss, qs_X0_dismiss, qn_X0, qc_X0_dismiss⟩, rfl, by decide, by decide, by decide +kernel⟩
theorem v_X0_dropMotion : zV yX0_dropMotion RX0 cX0_dropMotion 2 none 0 := ⟨⟨qi_X0_dropMotion, qs_X0_dropMotion, qn_X0, qc_X0_dropMotion⟩, rfl, by decide, by decide, by decide +kernel⟩
theorem v_X0_endWeek : zV yX0_endWeek RX0 cX0_endWeek 3 (some .int) 0 := ⟨⟨qi_X0_endWeek, qs_X0_endWeek, qn_X0, qc_X0_endWeek⟩, rfl, by decide, by decide, by decide +kernel⟩
theorem v_X0_endWeekOf : zV yX0_endWeekOf RX0 cX0_endWeekOf 4 (some .int) 1 := ⟨⟨qi_X0_endWeekOf, qs_X0_endWeekOf, qn_X0, qc_X0_endWeekOf⟩, rfl, by decide, by decide, by decide +kernel⟩
theorem v_X0_foreseenDecay : zV yX0_foreseenDecay RX0 cX0_foreseenDecay 7 (some .int) 2 := ⟨⟨qi_X0_foreseenDecay, qs_X0_foreseenDecay, qn_X0, qc_X0_foreseenDecay⟩, rfl, by decide, by decide, by decide +kernel⟩
theorem v_X0_forgive : zV yX0_forgive RX0 cX0_forgive 1 none 0 := ⟨⟨qi_X0_forgive, qs_X0_forgive, qn_X0, qc_X0_forgive⟩, rfl, by decide, by decide, by decide +kernel⟩
theorem v_X0_hasMotion : zV yX0_hasMotion RX0 cX0_hasMotion 1 (some .boolean) 0 := ⟨⟨qi_X0_hasMotion, qs_X0_hasMotion, qn_X0, qc_X0_hasMotion⟩, rfl, by decide, by decide, by decide +kernel⟩
theorem n_X0_init : zN yX0_init cX0_init 2 0 := ⟨⟨qi_X0_init, qn_X0, qc_X0_init⟩, rfl, by decide, by decide, by decide +kernel⟩
theorem v_X0_isCheaper : zV yX0_isCheaper RX0 cX0_isCheaper 7 (some .boolean) 4 := ⟨⟨qi_X0_isCheaper, qs_X0_isCheaper, qn_X0, qc_X0_isCheaper⟩, rfl, by decide, by decide, by decide +kernel⟩
theorem v_X0_isMember : zV yX0_isMember RX0 cX0_isMember 2 (some .boolean) 1 := ⟨⟨qi_X0_isMember, qs_X0_isMember, qn_X0, qc_X0_isMember⟩, rfl, by decide, by decide, by decide +kernel⟩
theorem v_X0_longestDeal : zV yX0_longestDeal RX0 cX0_longestDeal 6 (some .int) 3 := ⟨⟨qi_X0_longestDeal, qs_X0_longestDeal, qn_X0, qc_X0_longestDeal⟩, rfl, by decide, by decide, by decide +kernel⟩
theorem v_X0_makeDeal : zV yX0_makeDeal RX0 cX0_makeDeal 8 (some .int) 4 := ⟨⟨qi_X0_makeDeal, qs_X0_makeDeal, qn_X0, qc_X0_makeDeal⟩, rfl, by decide, by decide, by decide +kernel⟩
theorem v_X0_memberProperty : zV yX0_memberProperty RX0 cX0_memberProperty 4 (some .int) 2 := ⟨⟨qi_X0_memberProperty, qs_X0_memberProperty, qn_X0, qc_X0_memberProperty⟩, rfl, by decide, by decide, by decide +kernel⟩
theorem v_X0_missingVotes : zV yX0_missingVotes RX0 cX0_missingVotes 1 (some .int) 0 := ⟨⟨qi_X0_missingVotes, qs_X0_missingVotes, qn_X0, qc_X0_missingVotes⟩, rfl, by decide, by decide, by decide +kernel⟩
theorem v_X0_mostPractised : zV yX0_mostPractised RX0 cX0_mostPractised 4 (some .int) 1 := ⟨⟨qi_X0_mostPractised, qs_X0_mostPractised, qn_X0, qc_X0_mostPractised⟩, rfl, by decide, by decide, by decide +kernel⟩
theorem v_X0_openMotion : zV yX0_openMotion RX0 cX0_openMotion 3 none 2 := ⟨⟨qi_X0_openMotion, qs_X0_openMotion, qn_X0, qc_X0_openMotion⟩, rfl, by decide, by decide, by decide +kernel⟩
theorem v_X0_payLoanBack : zV yX0_payLoanBack RX0 cX0_payLoanBack 4 none 2 := ⟨⟨qi_X0_payLoanBack, qs_X0_payLoanBack, qn_X0, qc_X0_payLoanBack⟩, rfl, by decide, by decide, by decide +kernel⟩
theorem v_X0_payToCommon : zV yX0_payToCommon RX0 cX0_payToCommon 3 none 2 := ⟨⟨qi_X0_payToCommon, qs_X0_payToCommon, qn_X0, qc_X0_payToCommon⟩, rfl, by decide, by decide, by decide +kernel⟩
theorem v_X0_settleMotion : zV yX0_settleMotion RX0 cX0_settleMotion 2 (some .int) 0 := ⟨⟨qi_X0_settleMotion, qs_X0_settleMotion, qn_X0, qc_X0_settleMotion⟩, rfl, by decide, by decide, by decide +kernel⟩
theorem v_X0_sumOfCredits : zV yX0_sumOfCredits RX0 cX0_sumOfCredits 3 (some .int) 0 := ⟨⟨qi_X0_sumOfCredits, qs_X0_sumOfCredits, qn_X0, qc_X0_sumOfCredits⟩, rfl, by decide, by decide, by decide +kernel⟩
theorem v_X0_sumOfDebts : zV yX0_sumOfDebts RX0 cX0_sumOfDebts 3 (some .int) 0 := ⟨⟨qi_X0_sumOfDebts, qs_X0_sumOfDebts, qn_X0, qc_X0_sumOfDebts⟩, rfl, by decide, by decide, by decide +kernel⟩
theorem v_X0_sumOfLoans : zV yX0_sumOfLoans RX0 cX0_sumOfLoans 3 (some .int) 0 := ⟨⟨qi_X0_sumOfLoans, qs_X0_sumOfLoans, qn_X0, qc_X0_sumOfLoans⟩, rfl, by decide, by decide, by decide +kernel⟩
theorem v_X0_valueOfMinute : zV yX0_valueOfMinute RX0 cX0_valueOfMinute 4 (some .double) 0 := ⟨⟨qi_X0_valueOfMinute, qs_X0_valueOfMinute, qn_X0, qc_X0_valueOfMinute⟩, rfl, by decide, by decide, by decide +kernel⟩
theorem n_X1_init : zN yX1_init cX1_init 1 0 := ⟨⟨qi_X1_init, qn_X1, qc_X1_init⟩, rfl, by decide, by decide, by decide +kernel⟩
theorem v_X1_isDealWhole : zV yX1_isDealWhole RX1 cX1_isDealWhole 1 (some .boolean) 0 := ⟨⟨qi_X1_isDealWhole, qs_X1_isDealWhole, qn_X1, qc_X1_isDealWhole⟩, rfl, by decide, by decide, by decide +kernel⟩
theorem v_X1_makesDeal : zV yX1_makesDeal RX1 cX1_makesDeal 2 (some .boolean) 1 := ⟨⟨qi_X1_makesDeal, qs_X1_makesDeal, qn_X1, qc_X1_makesDeal⟩, rfl, by decide, by decide, by decide +kernel⟩
theorem v_X1_restart : zV yX1_restart RX1 cX1_restart 1 none 0 := ⟨⟨qi_X1_restart, qs_X1_restart, qn_X1, qc_X1_restart⟩, rfl, by decide, by decide, by decide +kernel⟩
theorem v_X1_takes : zV yX1_takes RX1 cX1_takes 2 (some .boolean) 1 := ⟨⟨qi_X1_takes, qs_X1_takes, qn_X1, qc_X1_takes⟩, rfl, by decide, by decide, by decide +kernel⟩
theorem v_X1_takesDigit : zV yX1_takesDigit RX1 cX1_takesDigit 2 (some .boolean) 1 := ⟨⟨qi_X1_takesDigit, qs_X1_takesDigit, qn_X1, qc_X1_takesDigit⟩, rfl, by decide, by decide, by decide +kernel⟩
theorem v_X1_takesEnd : zV yX1_takesEnd RX1 cX1_takesEnd 1 (some .boolean) 0 := ⟨⟨qi_X1_takesEnd, qs_X1_takesEnd, qn_X1, qc_X1_takesEnd⟩, rfl, by decide, by decide, by decide +kernel⟩
theorem v_X1_takesGiver : zV yX1_takesGiver RX1 cX1_takesGiver 2 (some .boolean) 1 := ⟨⟨qi_X1_takesGiver, qs_X1_takesGiver, qn_X1, qc_X1_takesGiver⟩, rfl, by decide, by decide, by decide +kernel⟩
theorem v_X1_takesMark : zV yX1_takesMark RX1 cX1_takesMark 3 (some .boolean) 2 := ⟨⟨qi_X1_takesMark, qs_X1_takesMark, qn_X1, qc_X1_takesMark⟩, rfl, by decide, by decide, by decide +kernel⟩
theorem v_X1_takesSkill : zV yX1_takesSkill RX1 cX1_takesSkill 2 (some .boolean) 1 := ⟨⟨qi_X1_takesSkill, qs_X1_takesSkill, qn_X1, qc_X1_takesSkill⟩, rfl, by decide, by decide, by decide +kernel⟩
theorem v_X1_takesTaker : zV yX1_takesTaker RX1 cX1_takesTaker 2 (some .boolean) 1 := ⟨⟨qi_X1_takesTaker, qs_X1_takesTaker, qn_X1, qc_X1_takesTaker⟩, rfl, by decide, by decide, by decide +kernel⟩
theorem v_X2_addSign : zV yX2_addSign RX2 cX2_addSign 2 none 1 := ⟨⟨qi_X2_addSign, qs_X2_addSign, qn_X2, qc_X2_addSign⟩, rfl, by decide, by decide, by decide +kernel⟩
theorem v_X2_findError : zV yX2_findError RX2 cX2_findError 2 (some .int) 0 := ⟨⟨qi_X2_findError, qs_X2_findError, qn_X2, qc_X2_findError⟩, rfl, by decide, by decide, by decide +kernel⟩
theorem n_X2_init : zN yX2_init cX2_init 1 0 := ⟨⟨qi_X2_init, qn_X2, qc_X2_init⟩, rfl, by decide, by decide, by decide +kernel⟩
theorem v_X2_isWholeRow : zV yX2_isWholeRow RX2 cX2_isWholeRow 1 (some .boolean) 0 := ⟨⟨qi_X2_isWholeRow, qs_X2_isWholeRow, qn_X2, qc_X2_isWholeRow⟩, rfl, by decide, by decide, by decide +kernel⟩
theorem v_X2_makeDeals : zV yX2_makeDeals RX2 cX2_makeDeals 4 (some .int) 1 := ⟨⟨qi_X2_makeDeals, qs_X2_makeDeals, qn_X2, qc_X2_makeDeals⟩, rfl, by decide, by decide, by decide +kernel⟩
theorem n_X3_init : zN yX3_init cX3_init 2 0 := ⟨⟨qi_X3_init, qn_X3, qc_X3_init⟩, rfl, by decide, by decide, by decide +kernel⟩
theorem v_X3_keep : zV yX3_keep RX3 cX3_keep 2 none 1 := ⟨⟨qi_X3_keep, qs_X3_keep, qn_X3, qc_X3_keep⟩, rfl, by decide, by decide, by decide +kernel⟩
theorem v_X3_restore : zV yX3_restore RX3 cX3_restore 2 none 1 := ⟨⟨qi_X3_restore, qs_X3_restore, qn_X3, qc_X3_restore⟩, rfl, by decide, by decide, by decide +kernel⟩
theorem v_X4_copyFrom : zV yX4_copyFrom RX4 cX4_copyFrom 3 none 1 := ⟨⟨qi_X4_copyFrom, qs_X4_copyFrom, qn_X4, qc_X4_copyFrom⟩, rfl, by decide, by decide, by decide +kernel⟩
theorem v_X4_dealRate : zV yX4_dealRate RX4 cX4_dealRate 2 (some .int) 1 := ⟨⟨qi_X4_dealRate, qs_X4_dealRate, qn_X4, qc_X4_dealRate⟩, rfl, by decide, by decide, by decide +kernel⟩
theorem v_X4_dealValue : zV yX4_dealValue RX4 cX4_dealValue 3 (some .int) 2 := ⟨⟨qi_X4_dealValue, qs_X4_dealValue, qn_X4, qc_X4_dealValue⟩, rfl, by decide, by decide, by decide +kernel⟩
theorem n_X4_init : zN yX4_init cX4_init 1 0 := ⟨⟨qi_X4_init, qn_X4, qc_X4_init⟩, rfl, by decide, by decide, by decide +kernel⟩
theorem v_X4_practise : zV yX4_practise RX4 cX4_practise 3 none 2 := ⟨⟨qi_X4_practise, qs_X4_practise, qn_X4, qc_X4_practise⟩, rfl, by decide, by decide, by decide +kernel⟩
theorem v_X4_ripeness : zV yX4_ripeness RX4 cX4_ripeness 2 (some .int) 1 := ⟨⟨qi_X4_ripeness, qs_X4_ripeness, qn_X4, qc_X4_ripeness⟩, rfl, by decide, by decide, by decide +kernel⟩
theorem v_X4_rust : zV yX4_rust RX4 cX4_rust 3 none 1 := ⟨⟨qi_X4_rust, qs_X4_rust, qn_X4, qc_X4_rust⟩, rfl, by decide, by decide, by decide +kernel⟩
theorem v_X5_append : zV yX5_append RX5 cX5_append 2 (some .int) 1 := ⟨⟨qi_X5_append, qs_X5_append, qn_X5, qc_X5_append⟩, rfl, by decide, by decide, by decide +kernel⟩
theorem t_X5_bitsOfWorth : zSt yX5_bitsOfWorth cX5_bitsOfWorth 2 (some .long) 1 := ⟨⟨qt_X5_bitsOfWorth, qn_X5, qc_X5_bitsOfWorth⟩, by decide, by decide, by decide +kernel⟩
theorem v_X5_cheapest : zV yX5_cheapest RX5 cX5_cheapest 4 (some .int) 3 := ⟨⟨qi_X5_cheapest, qs_X5_cheapest, qn_X5, qc_X5_cheapest⟩, rfl, by decide, by decide, by decide +kernel⟩
theorem v_X5_clearBuffer : zV yX5_clearBuffer RX5 cX5_clearBuffer 2 (some .int) 0 := ⟨⟨qi_X5_clearBuffer, qs_X5_clearBuffer, qn_X5, qc_X5_clearBuffer⟩, rfl, by decide, by decide, by decide +kernel⟩
theorem v_X5_count : zV yX5_count RX5 cX5_count 2 (some .int) 1 := ⟨⟨qi_X5_count, qs_X5_count, qn_X5, qc_X5_count⟩, rfl, by decide, by decide, by decide +kernel⟩
theorem v_X5_decayIn : zV yX5_decayIn RX5 cX5_decayIn 3 (some .int) 2 := ⟨⟨qi_X5_decayIn, qs_X5_decayIn, qn_X5, qc_X5_decayIn⟩, rfl, by decide, by decide, by decide +kernel⟩
theorem t_X5_decayingPart : zSt yX5_decayingPart cX5_decayingPart 2 (some .int) 2 := ⟨⟨qt_X5_decayingPart, qn_X5, qc_X5_decayingPart⟩, by decide, by decide, by decide +kernel⟩
theorem v_X5_digest : zV yX5_digest RX5 cX5_digest 4 (some .long) 0 := ⟨⟨qi_X5_digest, qs_X5_digest, qn_X5, qc_X5_digest⟩, rfl, by decide, by decide, by decide +kernel⟩
theorem v_X5_donate : zV yX5_donate RX5 cX5_donate 3 (some .int) 2 := ⟨⟨qi_X5_donate, qs_X5_donate, qn_X5, qc_X5_donate⟩, rfl, by decide, by decide, by decide +kernel⟩
theorem v_X5_firstError : zV yX5_firstError RX5 cX5_firstError 1 (some .int) 0 := ⟨⟨qi_X5_firstError, qs_X5_firstError, qn_X5, qc_X5_firstError⟩, rfl, by decide, by decide, by decide +kernel⟩
theorem v_X5_give : zV yX5_give RX5 cX5_give 5 (some .int) 4 := ⟨⟨qi_X5_give, qs_X5_give, qn_X5, qc_X5_give⟩, rfl, by decide, by decide, by decide +kernel⟩
theorem n_X5_init : zN yX5_init cX5_init 1 0 := ⟨⟨qi_X5_init, qn_X5, qc_X5_init⟩, rfl, by decide, by decide, by decide +kernel⟩
theorem t_X5_isDealMinutes : zSt yX5_isDealMinutes cX5_isDealMinutes 1 (some .boolean) 1 := ⟨⟨qt_X5_isDealMinutes, qn_X5, qc_X5_isDealMinutes⟩, by decide, by decide, by decide +kernel⟩
theorem t_X5_isSetting : zSt yX5_isSetting cX5_isSetting 1 (some .boolean) 1 := ⟨⟨qt_X5_isSetting, qn_X5, qc_X5_isSetting⟩, by decide, by decide, by decide +kernel⟩
theorem t_X5_isSkill : zSt yX5_isSkill cX5_isSkill 1 (some .boolean) 1 := ⟨⟨qt_X5_isSkill, qn_X5, qc_X5_isSkill⟩, by decide, by decide, by decide +kernel⟩
theorem t_X5_isWithin : zSt yX5_isWithin cX5_isWithin 3 (some .boolean) 3 := ⟨⟨qt_X5_isWithin, qn_X5, qc_X5_isWithin⟩, by decide, by decide, by decide +kernel⟩
theorem v_X5_join : zV yX5_join RX5 cX5_join 1 (some .int) 0 := ⟨⟨qi_X5_join, qs_X5_join, qn_X5, qc_X5_join⟩, rfl, by decide, by decide, by decide +kernel⟩
theorem v_X5_leave : zV yX5_leave RX5 cX5_leave 2 (some .int) 1 := ⟨⟨qi_X5_leave, qs_X5_leave, qn_X5, qc_X5_leave⟩, rfl, by decide, by decide, by decide +kernel⟩
theorem v_X5_longest : zV yX5_longest RX5 cX5_longest 4 (some .int) 3 := ⟨⟨qi_X5_longest, qs_X5_longest, qn_X5, qc_X5_longest⟩, rfl, by decide, by decide, by decide +kernel⟩
theorem v_X5_member : zV yX5_member RX5 cX5_member 3 (some .int) 2 := ⟨⟨qi_X5_member, qs_X5_member, qn_X5, qc_X5_member⟩, rfl, by decide, by decide, by decide +kernel⟩
theorem v_X5_minuteWorth : zV yX5_minuteWorth RX5 cX5_minuteWorth 1 (some .double) 0 := ⟨⟨qi_X5_minuteWorth, qs_X5_minuteWorth, qn_X5, qc_X5_minuteWorth⟩, rfl, by decide, by decide, by decide +kernel⟩
theorem t_X5_mixed : zSt yX5_mixed cX5_mixed 4 (some .long) 2 := ⟨⟨qt_X5_mixed, qn_X5, qc_X5_mixed⟩, by decide, by decide, by decide +kernel⟩
theorem v_X5_mixedMember : zV yX5_mixedMember RX5 cX5_mixedMember 7 (some .long) 2 := ⟨⟨qi_X5_mixedMember, qs_X5_mixedMember, qn_X5, qc_X5_mixedMember⟩, rfl, by decide, by decide, by decide +kernel⟩
theorem v_X5_mixedText : zV yX5_mixedText RX5 cX5_mixedText 6 (some .long) 1 := ⟨⟨qi_X5_mixedText, qs_X5_mixedText, qn_X5, qc_X5_mixedText⟩, rfl, by decide, by decide, by decide +kernel⟩
theorem v_X5_move : zV yX5_move RX5 cX5_move 3 (some .int) 2 := ⟨⟨qi_X5_move, qs_X5_move, qn_X5, qc_X5_move⟩, rfl, by decide, by decide, by decide +kernel⟩
theorem v_X5_number : zV yX5_number RX5 cX5_number 2 (some .int) 1 := ⟨⟨qi_X5_number, qs_X5_number, qn_X5, qc_X5_number⟩, rfl, by decide, by decide, by decide +kernel⟩
theorem v_X5_pass : zV yX5_pass RX5 cX5_pass 4 (some .int) 1 := ⟨⟨qi_X5_pass, qs_X5_pass, qn_X5, qc_X5_pass⟩, rfl, by decide, by decide, by decide +kernel⟩
theorem v_X5_ripest : zV yX5_ripest RX5 cX5_ripest 2 (some .int) 1 := ⟨⟨qi_X5_ripest, qs_X5_ripest, qn_X5, qc_X5_ripest⟩, rfl, by decide, by decide, by decide +kernel⟩
theorem v_X5_run : zV yX5_run RX5 cX5_run 2 (some .int) 0 := ⟨⟨qi_X5_run, qs_X5_run, qn_X5, qc_X5_run⟩, rfl, by decide, by decide, by decide +kernel⟩
theorem v_X5_set : zV yX5_set RX5 cX5_set 4 (some .int) 2 := ⟨⟨qi_X5_set, qs_X5_set, qn_X5, qc_X5_set⟩, rfl, by decide, by decide, by decide +kernel⟩
theorem v_X5_setting : zV yX5_setting RX5 cX5_setting 2 (some .int) 1 := ⟨⟨qi_X5_setting, qs_X5_setting, qn_X5, qc_X5_setting⟩, rfl, by decide, by decide, by decide +kernel⟩
theorem v_X5_skill : zV yX5_skill RX5 cX5_skill 4 (some .int) 3 := ⟨⟨qi_X5_skill, qs_X5_skill, qn_X5, qc_X5_skill⟩, rfl, by decide, by decide, by decide +kernel⟩
theorem v_X5_takeBack : zV yX5_takeBack RX5 cX5_takeBack 2 (some .int) 0 := ⟨⟨qi_X5_takeBack, qs_X5_takeBack, qn_X5, qc_X5_takeBack⟩, rfl, by decide, by decide, by decide +kernel⟩
theorem v_X5_undo : zV yX5_undo RX5 cX5_undo 1 (some .int) 0 := ⟨⟨qi_X5_undo, qs_X5_undo, qn_X5, qc_X5_undo⟩, rfl, by decide, by decide, by decide +kernel⟩
theorem v_X5_vote : zV yX5_vote RX5 cX5_vote 3 (some .int) 2 := ⟨⟨qi_X5_vote, qs_X5_vote, qn_X5, qc_X5_vote⟩, rfl, by decide, by decide, by decide +kernel⟩
theorem v_X5_votesNeeded : zV yX5_votesNeeded RX5 cX5_votesNeeded 1 (some .int) 0 := ⟨⟨qi_X5_votesNeeded, qs_X5_votesNeeded, qn_X5, qc_X5_votesNeeded⟩, rfl, by decide, by decide, by decide +kernel⟩
theorem v_X5_worth : zV yX5_worth RX5 cX5_worth 4 (some .int) 3 := ⟨⟨qi_X5_worth, qs_X5_worth, qn_X5, qc_X5_worth⟩, rfl, by decide, by decide, by decide +kernel⟩
theorem v_X6_add : zV yX6_add RX6 cX6_add 4 none 3 := ⟨⟨qi_X6_add, qs_X6_add, qn_X6, qc_X6_add⟩, rfl, by decide, by decide, by decide +kernel⟩
theorem v_X6_allThere : zV yX6_allThere RX6 cX6_allThere 3 (some .int) 0 := ⟨⟨qi_X6_allThere, qs_X6_allThere, qn_X6, qc_X6_allThere⟩, rfl, by decide, by decide, by decide +kernel⟩
theorem v_X6_append : zV yX6_append RX6 cX6_append 2 (some .int) 1 := ⟨⟨qi_X6_append, qs_X6_append, qn_X6, qc_X6_append⟩, rfl, by decide, by decide, by decide +kernel⟩
theorem t_X6_areMinutes : zSt yX6_areMinutes cX6_areMinutes 1 (some .boolean) 1 := ⟨⟨qt_X6_areMinutes, qn_X6, qc_X6_areMinutes⟩, by decide, by decide, by decide +kernel⟩
theorem v_X6_canDeal : zV yX6_canDeal RX6 cX6_canDeal 5 (some .boolean) 4 := ⟨⟨qi_X6_canDeal, qs_X6_canDeal, qn_X6, qc_X6_canDeal⟩, rfl, by decide, by decide, by decide +kernel⟩
theorem v_X6_canMove : zV yX6_canMove RX6 cX6_canMove 3 (some .boolean) 2 := ⟨⟨qi_X6_canMove, qs_X6_canMove, qn_X6, qc_X6_canMove⟩, rfl, by decide, by decide, by decide +kernel⟩
theorem v_X6_canPay : zV yX6_canPay RX6 cX6_canPay 3 (some .boolean) 2 := ⟨⟨qi_X6_canPay, qs_X6_canPay, qn_X6, qc_X6_canPay⟩, rfl, by decide, by decide, by decide +kernel⟩
theorem v_X6_canVote : zV yX6_canVote RX6 cX6_canVote 2 (some .boolean) 1 := ⟨⟨qi_X6_canVote, qs_X6_canVote, qn_X6, qc_X6_canVote⟩, rfl, by decide, by decide, by decide +kernel⟩
theorem v_X6_cheapest : zV yX6_cheapest RX6 cX6_cheapest 4 (some .int) 3 := ⟨⟨qi_X6_cheapest, qs_X6_cheapest, qn_X6, qc_X6_cheapest⟩, rfl, by decide, by decide, by decide +kernel⟩
theorem v_X6_cheapestNow : zV yX6_cheapestNow RX6 cX6_cheapestNow 7 (some .int) 3 := ⟨⟨qi_X6_cheapestNow, qs_X6_cheapestNow, qn_X6, qc_X6_cheapestNow⟩, rfl, by decide, by decide, by decide +kernel⟩
theorem v_X6_clearBuffer : zV yX6_clearBuffer RX6 cX6_clearBuffer 2 (some .int) 0 := ⟨⟨qi_X6_clearBuffer, qs_X6_clearBuffer, qn_X6, qc_X6_clearBuffer⟩, rfl, by decide, by decide, by decide +kernel⟩
theorem v_X6_count : zV yX6_count RX6 cX6_count 2 (some .int) 1 := ⟨⟨qi_X6_count, qs_X6_count, qn_X6, qc_X6_count⟩, rfl, by decide, by decide, by decide +kernel⟩
theorem v_X6_counted : zV yX6_counted RX6 cX6_counted 2 (some .int) 1 := ⟨⟨qi_X6_counted, qs_X6_counted, qn_X6, qc_X6_counted⟩, rfl, by decide, by decide, by decide +kernel⟩
theorem v_X6_deals : zV yX6_deals RX6 cX6_deals 9 (some .int) 4 := ⟨⟨qi_X6_deals, qs_X6_deals, qn_X6, qc_X6_deals⟩, rfl, by decide, by decide, by decide +kernel⟩
theorem v_X6_decayIn : zV yX6_decayIn RX6 cX6_decayIn 3 (some .int) 2 := ⟨⟨qi_X6_decayIn, qs_X6_decayIn, qn_X6, qc_X6_decayIn⟩, rfl, by decide, by decide, by decide +kernel⟩
theorem v_X6_decaysThen : zV yX6_decaysThen RX6 cX6_decaysThen 7 (some .int) 2 := ⟨⟨qi_X6_decaysThen, qs_X6_decaysThen, qn_X6, qc_X6_decaysThen⟩, rfl, by decide, by decide, by decide +kernel⟩
theorem v_X6_digest : zV yX6_digest RX6 cX6_digest 2 (some .long) 0 := ⟨⟨qi_X6_digest, qs_X6_digest, qn_X6, qc_X6_digest⟩, rfl, by decide, by decide, by decide +kernel⟩
theorem v_X6_donate : zV yX6_donate RX6 cX6_donate 3 (some .int) 2 := ⟨⟨qi_X6_donate, qs_X6_donate, qn_X6, qc_X6_donate⟩, rfl, by decide, by decide, by decide +kernel⟩
theorem v_X6_endMotion : zV yX6_endMotion RX6 cX6_endMotion 1 none 0 := ⟨⟨qi_X6_endMotion, qs_X6_endMotion, qn_X6, qc_X6_endMotion⟩, rfl, by decide, by decide, by decide +kernel⟩
theorem v_X6_firstError : zV yX6_firstError RX6 cX6_firstError 1 (some .int) 0 := ⟨⟨qi_X6_firstError, qs_X6_firstError, qn_X6, qc_X6_firstError⟩, rfl, by decide, by decide, by decide +kernel⟩
theorem v_X6_give : zV yX6_give RX6 cX6_give 5 (some .int) 4 := ⟨⟨qi_X6_give, qs_X6_give, qn_X6, qc_X6_give⟩, rfl, by decide, by decide, by decide +kernel⟩
theorem t_X6_greatest : zSt yX6_greatest cX6_greatest 1 (some .int) 1 := ⟨⟨qt_X6_greatest, qn_X6, qc_X6_greatest⟩, by decide, by decide, by decide +kernel⟩
theorem t_X6_has : zSt yX6_has cX6_has 2 (some .boolean) 2 := ⟨⟨qt_X6_has, qn_X6, qc_X6_has⟩, by decide, by decide, by decide +kernel⟩
theorem n_X6_init : zN yX6_init cX6_init 1 0 := ⟨⟨qi_X6_init, qn_X6, qc_X6_init⟩, rfl, by decide, by decide, by decide +kernel⟩
theorem v_X6_isMember : zV yX6_isMember RX6 cX6_isMember 2 (some .boolean) 1 := ⟨⟨qi_X6_isMember, qs_X6_isMember, qn_X6, qc_X6_isMember⟩, rfl, by decide, by decide, by decide +kernel⟩
theorem t_X6_isSetting : zSt yX6_isSetting cX6_isSetting 1 (some .boolean) 1 := ⟨⟨qt_X6_isSetting, qn_X6, qc_X6_isSetting⟩, by decide, by decide, by decide +kernel⟩
theorem t_X6_isSkill : zSt yX6_isSkill cX6_isSkill 1 (some .boolean) 1 := ⟨⟨qt_X6_isSkill, qn_X6, qc_X6_isSkill⟩, by decide, by decide, by decide +kernel⟩
theorem v_X6_isThere : zV yX6_isThere RX6 cX6_isThere 2 (some .boolean) 1 := ⟨⟨qi_X6_isThere, qs_X6_isThere, qn_X6, qc_X6_isThere⟩, rfl, by decide, by decide, by decide +kernel⟩
theorem v_X6_join : zV yX6_join RX6 cX6_join 2 (some .int) 0 := ⟨⟨qi_X6_join, qs_X6_join, qn_X6, qc_X6_join⟩, rfl, by decide, by decide, by decide +kernel⟩
theorem v_X6_leave : zV yX6_leave RX6 cX6_leave 4 (some .int) 1 := ⟨⟨qi_X6_leave, qs_X6_leave, qn_X6, qc_X6_leave⟩, rfl, by decide, by decide, by decide +kernel⟩
theorem v_X6_longest : zV yX6_longest RX6 cX6_longest 4 (some .int) 3 := ⟨⟨qi_X6_longest, qs_X6_longest, qn_X6, qc_X6_longest⟩, rfl, by decide, by decide, by decide +kernel⟩
theorem v_X6_longestNow : zV yX6_longestNow RX6 cX6_longestNow 5 (some .int) 3 := ⟨⟨qi_X6_longestNow, qs_X6_longestNow, qn_X6, qc_X6_longestNow⟩, rfl, by decide, by decide, by decide +kernel⟩
theorem v_X6_lookAt : zV yX6_lookAt RX6 cX6_lookAt 3 (some .int) 0 := ⟨⟨qi_X6_lookAt, qs_X6_lookAt, qn_X6, qc_X6_lookAt⟩, rfl, by decide, by decide, by decide +kernel⟩
theorem v_X6_makes : zV yX6_makes RX6 cX6_makes 5 (some .boolean) 1 := ⟨⟨qi_X6_makes, qs_X6_makes, qn_X6, qc_X6_makes⟩, rfl, by decide, by decide, by decide +kernel⟩
theorem v_X6_meanWorth : zV yX6_meanWorth RX6 cX6_meanWorth 2 (some .double) 0 := ⟨⟨qi_X6_meanWorth, qs_X6_meanWorth, qn_X6, qc_X6_meanWorth⟩, rfl, by decide, by decide, by decide +kernel⟩
theorem v_X6_member : zV yX6_member RX6 cX6_member 3 (some .int) 2 := ⟨⟨qi_X6_member, qs_X6_member, qn_X6, qc_X6_member⟩, rfl, by decide, by decide, by decide +kernel⟩
theorem v_X6_memberNow : zV yX6_memberNow RX6 cX6_memberNow 3 (some .int) 2 := ⟨⟨qi_X6_memberNow, qs_X6_memberNow, qn_X6, qc_X6_memberNow⟩, rfl, by decide, by decide, by decide +kernel⟩
theorem v_X6_minuteWorth : zV yX6_minuteWorth RX6 cX6_minuteWorth 1 (some .double) 0 := ⟨⟨qi_X6_minuteWorth, qs_X6_minuteWorth, qn_X6, qc_X6_minuteWorth⟩, rfl, by decide, by decide, by decide +kernel⟩
theorem v_X6_mix : zV yX6_mix RX6 cX6_mix 3 none 1 := ⟨⟨qi_X6_mix, qs_X6_mix, qn_X6, qc_X6_mix⟩, rfl, by decide, by decide, by decide +kernel⟩
theorem v_X6_mixMember : zV yX6_mixMember RX6 cX6_mixMember 3 none 1 := ⟨⟨qi_X6_mixMember, qs_X6_mixMember, qn_X6, qc_X6_mixMember⟩, rfl, by decide, by decide, by decide +kernel⟩
theorem v_X6_move : zV yX6_move RX6 cX6_move 3 (some .int) 2 := ⟨⟨qi_X6_move, qs_X6_move, qn_X6, qc_X6_move⟩, rfl, by decide, by decide, by decide +kernel⟩
theorem v_X6_needed : zV yX6_needed RX6 cX6_needed 1 (some .int) 0 := ⟨⟨qi_X6_needed, qs_X6_needed, qn_X6, qc_X6_needed⟩, rfl, by decide, by decide, by decide +kernel⟩
theorem v_X6_of : zV yX6_of RX6 cX6_of 3 (some .int) 2 := ⟨⟨qi_X6_of, qs_X6_of, qn_X6, qc_X6_of⟩, rfl, by decide, by decide, by decide +kernel⟩
theorem t_X6_ones : zSt yX6_ones cX6_ones 3 (some .int) 1 := ⟨⟨qt_X6_ones, qn_X6, qc_X6_ones⟩, by decide, by decide, by decide +kernel⟩
theorem v_X6_othersOf : zV yX6_othersOf RX6 cX6_othersOf 2 (some .int) 1 := ⟨⟨qi_X6_othersOf, qs_X6_othersOf, qn_X6, qc_X6_othersOf⟩, rfl, by decide, by decide, by decide +kernel⟩
theorem v_X6_pass : zV yX6_pass RX6 cX6_pass 2 (some .int) 1 := ⟨⟨qi_X6_pass, qs_X6_pass, qn_X6, qc_X6_pass⟩, rfl, by decide, by decide, by decide +kernel⟩
theorem v_X6_passes : zV yX6_passes RX6 cX6_passes 6 (some .int) 1 := ⟨⟨qi_X6_passes, qs_X6_passes, qn_X6, qc_X6_passes⟩, rfl, by decide, by decide, by decide +kernel⟩
theorem v_X6_put : zV yX6_put RX6 cX6_put 4 none 3 := ⟨⟨qi_X6_put, qs_X6_put, qn_X6, qc_X6_put⟩, rfl, by decide, by decide, by decide +kernel⟩
theorem v_X6_rightUpTo : zV yX6_rightUpTo RX6 cX6_rightUpTo 2 (some .int) 0 := ⟨⟨qi_X6_rightUpTo, qs_X6_rightUpTo, qn_X6, qc_X6_rightUpTo⟩, rfl, by decide, by decide, by decide +kernel⟩
theorem v_X6_ripenessOf : zV yX6_ripenessOf RX6 cX6_ripenessOf 4 (some .int) 2 := ⟨⟨qi_X6_ripenessOf, qs_X6_ripenessOf, qn_X6, qc_X6_ripenessOf⟩, rfl, by decide, by decide, by decide +kernel⟩
theorem v_X6_ripest : zV yX6_ripest RX6 cX6_ripest 2 (some .int) 1 := ⟨⟨qi_X6_ripest, qs_X6_ripest, qn_X6, qc_X6_ripest⟩, rfl, by decide, by decide, by decide +kernel⟩
theorem v_X6_ripestNow : zV yX6_ripestNow RX6 cX6_ripestNow 5 (some .int) 1 := ⟨⟨qi_X6_ripestNow, qs_X6_ripestNow, qn_X6, qc_X6_ripestNow⟩, rfl, by decide, by decide, by decide +kernel⟩
theorem v_X6_run : zV yX6_run RX6 cX6_run 3 (some .int) 0 := ⟨⟨qi_X6_run, qs_X6_run, qn_X6, qc_X6_run⟩, rfl, by decide, by decide, by decide +kernel⟩
theorem v_X6_save : zV yX6_save RX6 cX6_save 2 none 0 := ⟨⟨qi_X6_save, qs_X6_save, qn_X6, qc_X6_save⟩, rfl, by decide, by decide, by decide +kernel⟩
theorem v_X6_set : zV yX6_set RX6 cX6_set 4 (some .int) 2 := ⟨⟨qi_X6_set, qs_X6_set, qn_X6, qc_X6_set⟩, rfl, by decide, by decide, by decide +kernel⟩
theorem v_X6_setting : zV yX6_setting RX6 cX6_setting 2 (some .int) 1 := ⟨⟨qi_X6_setting, qs_X6_setting, qn_X6, qc_X6_setting⟩, rfl, by decide, by decide, by decide +kernel⟩
theorem v_X6_skill : zV yX6_skill RX6 cX6_skill 4 (some .int) 3 := ⟨⟨qi_X6_skill, qs_X6_skill, qn_X6, qc_X6_skill⟩, rfl, by decide, by decide, by decide +kernel⟩
theorem v_X6_skillNow : zV yX6_skillNow RX6 cX6_skillNow 4 (some .int) 3 := ⟨⟨qi_X6_skillNow, qs_X6_skillNow, qn_X6, qc_X6_skillNow⟩, rfl, by decide, by decide, by decide +kernel⟩
theorem v_X6_sumOf : zV yX6_sumOf RX6 cX6_sumOf 4 (some .int) 1 := ⟨⟨qi_X6_sumOf, qs_X6_sumOf, qn_X6, qc_X6_sumOf⟩, rfl, by decide, by decide, by decide +kernel⟩
theorem v_X6_sumOfBalances : zV yX6_sumOfBalances RX6 cX6_sumOfBalances 5 (some .int) 1 := ⟨⟨qi_X6_sumOfBalances, qs_X6_sumOfBalances, qn_X6, qc_X6_sumOfBalances⟩, rfl, by decide, by decide, by decide +kernel⟩
theorem v_X6_takeBack : zV yX6_takeBack RX6 cX6_takeBack 2 (some .int) 0 := ⟨⟨qi_X6_takeBack, qs_X6_takeBack, qn_X6, qc_X6_takeBack⟩, rfl, by decide, by decide, by decide +kernel⟩
theorem v_X6_takes : zV yX6_takes RX6 cX6_takes 2 (some .boolean) 1 := ⟨⟨qi_X6_takes, qs_X6_takes, qn_X6, qc_X6_takes⟩, rfl, by decide, by decide, by decide +kernel⟩
theorem v_X6_takesDigit : zV yX6_takesDigit RX6 cX6_takesDigit 4 (some .boolean) 1 := ⟨⟨qi_X6_takesDigit, qs_X6_takesDigit, qn_X6, qc_X6_takesDigit⟩, rfl, by decide, by decide, by decide +kernel⟩
theorem v_X6_takesMember : zV yX6_takesMember RX6 cX6_takesMember 4 (some .boolean) 1 := ⟨⟨qi_X6_takesMember, qs_X6_takesMember, qn_X6, qc_X6_takesMember⟩, rfl, by decide, by decide, by decide +kernel⟩
theorem v_X6_thrown : zV yX6_thrown RX6 cX6_thrown 1 (some .int) 0 := ⟨⟨qi_X6_thrown, qs_X6_thrown, qn_X6, qc_X6_thrown⟩, rfl, by decide, by decide, by decide +kernel⟩
theorem v_X6_undo : zV yX6_undo RX6 cX6_undo 2 (some .int) 0 := ⟨⟨qi_X6_undo, qs_X6_undo, qn_X6, qc_X6_undo⟩, rfl, by decide, by decide, by decide +kernel⟩
theorem v_X6_valueOf : zV yX6_valueOf RX6 cX6_valueOf 4 (some .int) 3 := ⟨⟨qi_X6_valueOf, qs_X6_valueOf, qn_X6, qc_X6_valueOf⟩, rfl, by decide, by decide, by decide +kernel⟩
theorem v_X6_vote : zV yX6_vote RX6 cX6_vote 3 (some .int) 2 := ⟨⟨qi_X6_vote, qs_X6_vote, qn_X6, qc_X6_vote⟩, rfl, by decide, by decide, by decide +kernel⟩
theorem v_X6_votesNeeded : zV yX6_votesNeeded RX6 cX6_votesNeeded 1 (some .int) 0 := ⟨⟨qi_X6_votesNeeded, qs_X6_votesNeeded, qn_X6, qc_X6_votesNeeded⟩, rfl, by decide, by decide, by decide +kernel⟩
theorem v_X6_weekOf : zV yX6_weekOf RX6 cX6_weekOf 4 (some .int) 1 := ⟨⟨qi_X6_weekOf, qs_X6_weekOf, qn_X6, qc_X6_weekOf⟩, rfl, by decide, by decide, by decide +kernel⟩
theorem t_X6_within : zSt yX6_within cX6_within 3 (some .boolean) 3 := ⟨⟨qt_X6_within, qn_X6, qc_X6_within⟩, by decide, by decide, by decide +kernel⟩
theorem v_X6_worth : zV yX6_worth RX6 cX6_worth 4 (some .int) 3 := ⟨⟨qi_X6_worth, qs_X6_worth, qn_X6, qc_X6_worth⟩, rfl, by decide, by decide, by decide +kernel⟩
