/-! my own base: Int32 by its Int meaning -/
theorem zi_bm {z : Int} (h : -2147483648 ≤ z ∧ z ≤ 2147483647) : z.bmod 4294967296 = z := by
  rw [Int.bmod_def]
  split <;> omega
theorem zi_lo (x : Int32) : -2147483648 ≤ x.toInt := x.le_toInt
theorem zi_hi (x : Int32) : x.toInt ≤ 2147483647 := Int.le_of_lt_add_one x.toInt_lt
theorem zi_add {x y : Int32} {i j : Int} (hx : x.toInt = i) (hy : y.toInt = j) (h : -2147483648 ≤ i + j ∧ i + j ≤ 2147483647) : (x + y).toInt = i + j := by
  rw [Int32.toInt_add, hx, hy]
  exact zi_bm h
theorem zi_sub {x y : Int32} {i j : Int} (hx : x.toInt = i) (hy : y.toInt = j) (h : -2147483648 ≤ i - j ∧ i - j ≤ 2147483647) : (x - y).toInt = i - j := by
  rw [Int32.toInt_sub, hx, hy]
  exact zi_bm h
theorem zi_mul {x y : Int32} {i j : Int} (hx : x.toInt = i) (hy : y.toInt = j) (h : -2147483648 ≤ i * j ∧ i * j ≤ 2147483647) : (x * y).toInt = i * j := by
  rw [Int32.toInt_mul, hx, hy]
  exact zi_bm h
theorem zi_neg {x : Int32} {i : Int} (hx : x.toInt = i) (h : -2147483647 ≤ i) : (-x).toInt = -i := by
  rw [Int32.toInt_neg, hx]
  have := zi_hi x
  exact zi_bm (by omega)
theorem zi_eq {x y : Int32} {i j : Int} (hx : x.toInt = i) (hy : y.toInt = j) : x = y ↔ i = j := by
  rw [← hx, ← hy]
  exact Int32.toInt_inj.symm
theorem zi_lt {x y : Int32} {i j : Int} (hx : x.toInt = i) (hy : y.toInt = j) : x < y ↔ i < j := by
  rw [← hx, ← hy]
  exact Int32.lt_iff_toInt_lt
theorem zi_le {x y : Int32} {i j : Int} (hx : x.toInt = i) (hy : y.toInt = j) : x ≤ y ↔ i ≤ j := by
  rw [← hx, ← hy]
  exact Int32.le_iff_toInt_le
theorem zi_0 : (0 : Int32).toInt = 0 := rfl
theorem zi_cl {x : Int32} {i : Int} (hx : x.toInt = i) : x.toNatClampNeg = i.toNat := by
  rw [← hx]
  rfl
theorem zi_in {x : Int32} {i : Int} {n : Nat} (hx : x.toInt = i) (h : 0 ≤ i ∧ i < (n : Int)) : vp_in x n := by
  intro q
  rcases q with q | q
  · have := (zi_lt hx zi_0).mp q
    omega
  · rw [zi_cl hx] at q
    omega
/-- the quotient and the rest of an Int32 division by a positive number -/
theorem zi_div {x y : Int32} {i j : Int} (hx : x.toInt = i) (hy : y.toInt = j) (hj : 0 < j) : (x / y).toInt = i.tdiv j := by
  rw [Int32.toInt_div_of_ne_right _ _ (fun e => by
    have h1 : y.toInt = -1 := by rw [e]; rfl
    omega), hx, hy]
theorem zi_rem {x y : Int32} {i j : Int} (hx : x.toInt = i) (hy : y.toInt = j) (hj : 0 < j) : (x - x / y * y).toInt = i.tmod j := by
  have hd := zi_div hx hy hj
  have e : i.tmod j + j * i.tdiv j = i := Int.tmod_add_mul_tdiv i j
  have h0 := zi_lo x
  have h1 := zi_hi x
  rw [Int32.toInt_sub, Int32.toInt_mul, hd, hy, hx]
  have e2 : i.tdiv j * j = i - i.tmod j := by rw [Int.mul_comm]; omega
  have hm : i.tmod j < j := Int.tmod_lt_of_pos i hj
  have hm2 : -j < i.tmod j := by
    rcases Int.le_total 0 i with hi | hi
    · have := Int.tmod_nonneg j hi
      omega
    · have h7 : (-i).tmod j = -(i.tmod j) := Int.neg_tmod i j
      have := Int.tmod_lt_of_pos (-i) hj
      omega
  rw [e2]
  have h3 : -2147483648 ≤ i - i.tmod j ∧ i - i.tmod j ≤ 2147483647 := by
    rcases Int.le_total 0 i with hi | hi
    · have := Int.tmod_nonneg j hi
      have h5 : i.tmod j ≤ i := by
        have := Int.tmod_eq_emod_of_nonneg (b := j) hi
        rw [this]
        rcases Int.lt_or_le i j with q | q
        · rw [Int.emod_eq_of_lt hi q]
          omega
        · have := Int.emod_lt_of_pos i hj
          omega
      omega
    · have h6 : i.tmod j ≤ 0 := by
        have h7 : (-i).tmod j = -(i.tmod j) := Int.neg_tmod i j
        have := Int.tmod_nonneg (a := -i) j (by omega)
        omega
      have h8 : i ≤ i.tmod j := by
        have h7 : (-i).tmod j = -(i.tmod j) := Int.neg_tmod i j
        have hi' : 0 ≤ -i := by omega
        have h9 := Int.tmod_eq_emod_of_nonneg (b := j) hi'
        have h10 : (-i) % j ≤ -i := by
          rcases Int.lt_or_le (-i) j with q | q
          · rw [Int.emod_eq_of_lt hi' q]
            omega
          · have := Int.emod_lt_of_pos (-i) hj
            omega
        omega
      omega
  rw [show (i - i.tmod j).bmod (2 ^ 32) = i - i.tmod j from zi_bm h3]
  have h4 : i - (i - i.tmod j) = i.tmod j := by omega
  rw [h4]
  refine zi_bm ?_
  have := zi_hi y
  omega
theorem zi_of (x : Int32) : Int32.ofInt x.toInt = x := Int32.ofInt_toInt x
theorem zi_ofI {i : Int} (h : -2147483648 ≤ i ∧ i ≤ 2147483647) : (Int32.ofInt i).toInt = i := by
  rw [Int32.toInt_ofInt]
  exact zi_bm h
theorem zi_ext {x y : Int32} {i : Int} (hx : x.toInt = i) (hy : y.toInt = i) : x = y := Int32.toInt_inj.mp (hx.trans hy.symm)
theorem zi_eqOf {x : Int32} {i : Int} (hx : x.toInt = i) : x = Int32.ofInt i := by rw [← hx, zi_of]
/-- what a method that answers a boolean answers -/
def isB (x : Int32) (P : Prop) : Prop := (x.toInt = 1 ∧ P) ∨ (x.toInt = 0 ∧ ¬ P)
theorem isB.t {x : Int32} {P : Prop} (hx : x.toInt = 1) (h : P) : isB x P := Or.inl ⟨hx, h⟩
theorem isB.f {x : Int32} {P : Prop} (hx : x.toInt = 0) (h : ¬ P) : isB x P := Or.inr ⟨hx, h⟩
theorem isB.iff {x : Int32} {P P' : Prop} (h : isB x P) (e : P ↔ P') : isB x P' := h.elim (fun q => Or.inl ⟨q.1, e.mp q.2⟩) (fun q => Or.inr ⟨q.1, fun z => q.2 (e.mpr z)⟩)
theorem isB.ext {x y : Int32} {P : Prop} (h : isB x P) (g : isB y P) : x = y := by
  rcases h with h | h <;> rcases g with g | g
  · exact zi_ext h.1 g.1
  · exact absurd h.2 g.2
  · exact absurd g.2 h.2
  · exact zi_ext h.1 g.1
/-! rows by Int meanings -/
section ZR
variable {p : Program} {l : Launch} {e : Env} {R : Room} {s : State} {m : MethodId} {args : Array Value} {below : List Frame} {meth : Method} {c : Code} {H : Heap} {locs : List Loc} {cells slots : Nat} {Q : State → Prop}
variable {cc : ByteArray} {pc : Nat} {ls : Array Slot} {rest : List Value}
theorem z_iadd (hx : p.tables.exec = Jvm.exec) (hb : c.code = cc) {x y : Int32} {i j : Int} (hX : x.toInt = i) (hY : y.toInt = j) (hdg : decode cc pc = .ok (.iadd, 1)) (h : -2147483648 ≤ i + j ∧ i + j ≤ 2147483647)
    (kk : ∀ z : Int32, z.toInt = i + j → W p l e R s m args below meth c H locs cells slots Q (F0 m (pc + 1) ls (.int z :: rest))) : W p l e R s m args below meth c H locs cells slots Q (F0 m pc ls (.int y :: .int x :: rest)) := lv_iadd hx hb hdg (kk _ (zi_add hX hY h))
theorem z_isub (hx : p.tables.exec = Jvm.exec) (hb : c.code = cc) {x y : Int32} {i j : Int} (hX : x.toInt = i) (hY : y.toInt = j) (hdg : decode cc pc = .ok (.isub, 1)) (h : -2147483648 ≤ i - j ∧ i - j ≤ 2147483647)
    (kk : ∀ z : Int32, z.toInt = i - j → W p l e R s m args below meth c H locs cells slots Q (F0 m (pc + 1) ls (.int z :: rest))) : W p l e R s m args below meth c H locs cells slots Q (F0 m pc ls (.int y :: .int x :: rest)) := lv_isub hx hb hdg (kk _ (zi_sub hX hY h))
theorem z_imul (hx : p.tables.exec = Jvm.exec) (hb : c.code = cc) {x y : Int32} {i j : Int} (hX : x.toInt = i) (hY : y.toInt = j) (hdg : decode cc pc = .ok (.imul, 1)) (h : -2147483648 ≤ i * j ∧ i * j ≤ 2147483647)
    (kk : ∀ z : Int32, z.toInt = i * j → W p l e R s m args below meth c H locs cells slots Q (F0 m (pc + 1) ls (.int z :: rest))) : W p l e R s m args below meth c H locs cells slots Q (F0 m pc ls (.int y :: .int x :: rest)) := lv_imul hx hb hdg (kk _ (zi_mul hX hY h))
theorem z_idiv (hx : p.tables.exec = Jvm.exec) (hb : c.code = cc) {x y : Int32} {i j : Int} (hX : x.toInt = i) (hY : y.toInt = j) (hdg : decode cc pc = .ok (.idiv, 1)) (h : 0 < j)
    (kk : ∀ z : Int32, z.toInt = i.tdiv j → W p l e R s m args below meth c H locs cells slots Q (F0 m (pc + 1) ls (.int z :: rest))) : W p l e R s m args below meth c H locs cells slots Q (F0 m pc ls (.int y :: .int x :: rest)) := lv_idiv hx hb hdg (fun q => by have := (zi_eq hY zi_0).mp q; omega) (kk _ (zi_div hX hY h))
theorem z_irem (hx : p.tables.exec = Jvm.exec) (hb : c.code = cc) {x y : Int32} {i j : Int} (hX : x.toInt = i) (hY : y.toInt = j) (hdg : decode cc pc = .ok (.irem, 1)) (h : 0 < j)
    (kk : ∀ z : Int32, z.toInt = i.tmod j → W p l e R s m args below meth c H locs cells slots Q (F0 m (pc + 1) ls (.int z :: rest))) : W p l e R s m args below meth c H locs cells slots Q (F0 m pc ls (.int y :: .int x :: rest)) := lv_irem hx hb hdg (fun q => by have := (zi_eq hY zi_0).mp q; omega) (kk _ (zi_rem hX hY h))
/-- a division of a number that isn't negative -/
theorem z_idivp (hx : p.tables.exec = Jvm.exec) (hb : c.code = cc) {x y : Int32} {i j : Int} (hX : x.toInt = i) (hY : y.toInt = j) (hdg : decode cc pc = .ok (.idiv, 1)) (h : 0 ≤ i ∧ 0 < j)
    (kk : ∀ z : Int32, z.toInt = i / j → W p l e R s m args below meth c H locs cells slots Q (F0 m (pc + 1) ls (.int z :: rest))) : W p l e R s m args below meth c H locs cells slots Q (F0 m pc ls (.int y :: .int x :: rest)) := z_idiv hx hb hX hY hdg h.2 (fun z hz => kk z (by rw [hz, Int.tdiv_eq_ediv_of_nonneg h.1]))
theorem z_iremp (hx : p.tables.exec = Jvm.exec) (hb : c.code = cc) {x y : Int32} {i j : Int} (hX : x.toInt = i) (hY : y.toInt = j) (hdg : decode cc pc = .ok (.irem, 1)) (h : 0 ≤ i ∧ 0 < j)
    (kk : ∀ z : Int32, z.toInt = i % j → W p l e R s m args below meth c H locs cells slots Q (F0 m (pc + 1) ls (.int z :: rest))) : W p l e R s m args below meth c H locs cells slots Q (F0 m pc ls (.int y :: .int x :: rest)) := z_irem hx hb hX hY hdg h.2 (fun z hz => kk z (by rw [hz, Int.tmod_eq_emod_of_nonneg h.1]))
theorem z_ineg (hx : p.tables.exec = Jvm.exec) (hb : c.code = cc) {x : Int32} {i : Int} (hX : x.toInt = i) (hdg : decode cc pc = .ok (.ineg, 1)) (h : -2147483647 ≤ i)
    (kk : ∀ z : Int32, z.toInt = -i → W p l e R s m args below meth c H locs cells slots Q (F0 m (pc + 1) ls (.int z :: rest))) : W p l e R s m args below meth c H locs cells slots Q (F0 m pc ls (.int x :: rest)) := lv_ineg hx hb hdg (kk _ (zi_neg hX h))
theorem z_iinc (hx : p.tables.exec = Jvm.exec) (hb : c.code = cc) {i nL k : Nat} {n a j : Int} {x : Int32} {lv : List (Nat × Value)} (hdg : decode cc pc = .ok (.iinc i n, 3)) (h : lv_has ls nL lv) (hk : lv[k]? = some (i, .int x)) (hX : x.toInt = a) (hn9 : (Int32.ofInt n).toInt = j) (hr : -2147483648 ≤ a + j ∧ a + j ≤ 2147483647) (hn : i < nL)
    (kk : ∀ v : Int32, v.toInt = a + j → ∀ ls' : Array Slot, lv_has ls' nL ((i, Value.int v) :: lv.filter (fun q => !(q.1 == i) && !(q.1 + 1 == i && q.2.category == 2))) → W p l e R s m args below meth c H locs cells slots Q (F0 m (pc + 3) ls' rest)) : W p l e R s m args below meth c H locs cells slots Q (F0 m pc ls rest) :=
  lv_iinc (v := x + Int32.ofInt n) hx hb hdg h hk rfl hn rfl (kk _ (zi_add hX hn9 hr))
theorem z_if_eq (hx : p.tables.exec = Jvm.exec) (hb : c.code = cc) {x : Int32} {off i : Int} {tgt : Nat} (hX : x.toInt = i) (hdg : decode cc pc = .ok (.ifCond .eq off, 3)) (ht : (pc : Int) + off = (tgt : Int))
    (kt : i = 0 → W p l e R s m args below meth c H locs cells slots Q (F0 m tgt ls rest)) (kf : i ≠ 0 → W p l e R s m args below meth c H locs cells slots Q (F0 m (pc + 3) ls rest)) : W p l e R s m args below meth c H locs cells slots Q (F0 m pc ls (.int x :: rest)) :=
  lv_if_eq hx hb hdg ht (fun q => kt ((zi_eq hX zi_0).mp q)) (fun q => kf (fun z => q ((zi_eq hX zi_0).mpr z)))
theorem z_if_ne (hx : p.tables.exec = Jvm.exec) (hb : c.code = cc) {x : Int32} {off i : Int} {tgt : Nat} (hX : x.toInt = i) (hdg : decode cc pc = .ok (.ifCond .ne off, 3)) (ht : (pc : Int) + off = (tgt : Int))
    (kt : i ≠ 0 → W p l e R s m args below meth c H locs cells slots Q (F0 m tgt ls rest)) (kf : i = 0 → W p l e R s m args below meth c H locs cells slots Q (F0 m (pc + 3) ls rest)) : W p l e R s m args below meth c H locs cells slots Q (F0 m pc ls (.int x :: rest)) :=
  lv_if_ne hx hb hdg ht (fun q => kt (fun z => q ((zi_eq hX zi_0).mpr z))) (fun q => kf ((zi_eq hX zi_0).mp q))
theorem z_if_lt (hx : p.tables.exec = Jvm.exec) (hb : c.code = cc) {x : Int32} {off i : Int} {tgt : Nat} (hX : x.toInt = i) (hdg : decode cc pc = .ok (.ifCond .lt off, 3)) (ht : (pc : Int) + off = (tgt : Int))
    (kt : i < 0 → W p l e R s m args below meth c H locs cells slots Q (F0 m tgt ls rest)) (kf : 0 ≤ i → W p l e R s m args below meth c H locs cells slots Q (F0 m (pc + 3) ls rest)) : W p l e R s m args below meth c H locs cells slots Q (F0 m pc ls (.int x :: rest)) :=
  lv_if_lt hx hb hdg ht (fun q => kt ((zi_lt hX zi_0).mp q)) (fun q => kf (Int.not_lt.mp (fun z => q ((zi_lt hX zi_0).mpr z))))
theorem z_if_ge (hx : p.tables.exec = Jvm.exec) (hb : c.code = cc) {x : Int32} {off i : Int} {tgt : Nat} (hX : x.toInt = i) (hdg : decode cc pc = .ok (.ifCond .ge off, 3)) (ht : (pc : Int) + off = (tgt : Int))
    (kt : 0 ≤ i → W p l e R s m args below meth c H locs cells slots Q (F0 m tgt ls rest)) (kf : i < 0 → W p l e R s m args below meth c H locs cells slots Q (F0 m (pc + 3) ls rest)) : W p l e R s m args below meth c H locs cells slots Q (F0 m pc ls (.int x :: rest)) :=
  lv_if_ge hx hb hdg ht (fun q => kt ((zi_le zi_0 hX).mp q)) (fun q => kf (Int.not_le.mp (fun z => q ((zi_le zi_0 hX).mpr z))))
theorem z_if_gt (hx : p.tables.exec = Jvm.exec) (hb : c.code = cc) {x : Int32} {off i : Int} {tgt : Nat} (hX : x.toInt = i) (hdg : decode cc pc = .ok (.ifCond .gt off, 3)) (ht : (pc : Int) + off = (tgt : Int))
    (kt : 0 < i → W p l e R s m args below meth c H locs cells slots Q (F0 m tgt ls rest)) (kf : i ≤ 0 → W p l e R s m args below meth c H locs cells slots Q (F0 m (pc + 3) ls rest)) : W p l e R s m args below meth c H locs cells slots Q (F0 m pc ls (.int x :: rest)) :=
  lv_if_gt hx hb hdg ht (fun q => kt ((zi_lt zi_0 hX).mp q)) (fun q => kf (Int.not_lt.mp (fun z => q ((zi_lt zi_0 hX).mpr z))))
theorem z_if_le (hx : p.tables.exec = Jvm.exec) (hb : c.code = cc) {x : Int32} {off i : Int} {tgt : Nat} (hX : x.toInt = i) (hdg : decode cc pc = .ok (.ifCond .le off, 3)) (ht : (pc : Int) + off = (tgt : Int))
    (kt : i ≤ 0 → W p l e R s m args below meth c H locs cells slots Q (F0 m tgt ls rest)) (kf : 0 < i → W p l e R s m args below meth c H locs cells slots Q (F0 m (pc + 3) ls rest)) : W p l e R s m args below meth c H locs cells slots Q (F0 m pc ls (.int x :: rest)) :=
  lv_if_le hx hb hdg ht (fun q => kt ((zi_le hX zi_0).mp q)) (fun q => kf (Int.not_le.mp (fun z => q ((zi_le hX zi_0).mpr z))))
theorem z_icmp_eq (hx : p.tables.exec = Jvm.exec) (hb : c.code = cc) {x y : Int32} {off i j : Int} {tgt : Nat} (hX : x.toInt = i) (hY : y.toInt = j) (hdg : decode cc pc = .ok (.if_icmp .eq off, 3)) (ht : (pc : Int) + off = (tgt : Int))
    (kt : i = j → W p l e R s m args below meth c H locs cells slots Q (F0 m tgt ls rest)) (kf : i ≠ j → W p l e R s m args below meth c H locs cells slots Q (F0 m (pc + 3) ls rest)) : W p l e R s m args below meth c H locs cells slots Q (F0 m pc ls (.int y :: .int x :: rest)) :=
  lv_icmp_eq hx hb hdg ht (fun q => kt ((zi_eq hX hY).mp q)) (fun q => kf (fun z => q ((zi_eq hX hY).mpr z)))
theorem z_icmp_ne (hx : p.tables.exec = Jvm.exec) (hb : c.code = cc) {x y : Int32} {off i j : Int} {tgt : Nat} (hX : x.toInt = i) (hY : y.toInt = j) (hdg : decode cc pc = .ok (.if_icmp .ne off, 3)) (ht : (pc : Int) + off = (tgt : Int))
    (kt : i ≠ j → W p l e R s m args below meth c H locs cells slots Q (F0 m tgt ls rest)) (kf : i = j → W p l e R s m args below meth c H locs cells slots Q (F0 m (pc + 3) ls rest)) : W p l e R s m args below meth c H locs cells slots Q (F0 m pc ls (.int y :: .int x :: rest)) :=
  lv_icmp_ne hx hb hdg ht (fun q => kt (fun z => q ((zi_eq hX hY).mpr z))) (fun q => kf ((zi_eq hX hY).mp q))
theorem z_icmp_lt (hx : p.tables.exec = Jvm.exec) (hb : c.code = cc) {x y : Int32} {off i j : Int} {tgt : Nat} (hX : x.toInt = i) (hY : y.toInt = j) (hdg : decode cc pc = .ok (.if_icmp .lt off, 3)) (ht : (pc : Int) + off = (tgt : Int))
    (kt : i < j → W p l e R s m args below meth c H locs cells slots Q (F0 m tgt ls rest)) (kf : j ≤ i → W p l e R s m args below meth c H locs cells slots Q (F0 m (pc + 3) ls rest)) : W p l e R s m args below meth c H locs cells slots Q (F0 m pc ls (.int y :: .int x :: rest)) :=
  lv_icmp_lt hx hb hdg ht (fun q => kt ((zi_lt hX hY).mp q)) (fun q => kf (Int.not_lt.mp (fun z => q ((zi_lt hX hY).mpr z))))
theorem z_icmp_ge (hx : p.tables.exec = Jvm.exec) (hb : c.code = cc) {x y : Int32} {off i j : Int} {tgt : Nat} (hX : x.toInt = i) (hY : y.toInt = j) (hdg : decode cc pc = .ok (.if_icmp .ge off, 3)) (ht : (pc : Int) + off = (tgt : Int))
    (kt : j ≤ i → W p l e R s m args below meth c H locs cells slots Q (F0 m tgt ls rest)) (kf : i < j → W p l e R s m args below meth c H locs cells slots Q (F0 m (pc + 3) ls rest)) : W p l e R s m args below meth c H locs cells slots Q (F0 m pc ls (.int y :: .int x :: rest)) :=
  lv_icmp_ge hx hb hdg ht (fun q => kt ((zi_le hY hX).mp q)) (fun q => kf (Int.not_le.mp (fun z => q ((zi_le hY hX).mpr z))))
theorem z_icmp_gt (hx : p.tables.exec = Jvm.exec) (hb : c.code = cc) {x y : Int32} {off i j : Int} {tgt : Nat} (hX : x.toInt = i) (hY : y.toInt = j) (hdg : decode cc pc = .ok (.if_icmp .gt off, 3)) (ht : (pc : Int) + off = (tgt : Int))
    (kt : j < i → W p l e R s m args below meth c H locs cells slots Q (F0 m tgt ls rest)) (kf : i ≤ j → W p l e R s m args below meth c H locs cells slots Q (F0 m (pc + 3) ls rest)) : W p l e R s m args below meth c H locs cells slots Q (F0 m pc ls (.int y :: .int x :: rest)) :=
  lv_icmp_gt hx hb hdg ht (fun q => kt ((zi_lt hY hX).mp q)) (fun q => kf (Int.not_lt.mp (fun z => q ((zi_lt hY hX).mpr z))))
theorem z_icmp_le (hx : p.tables.exec = Jvm.exec) (hb : c.code = cc) {x y : Int32} {off i j : Int} {tgt : Nat} (hX : x.toInt = i) (hY : y.toInt = j) (hdg : decode cc pc = .ok (.if_icmp .le off, 3)) (ht : (pc : Int) + off = (tgt : Int))
    (kt : i ≤ j → W p l e R s m args below meth c H locs cells slots Q (F0 m tgt ls rest)) (kf : j < i → W p l e R s m args below meth c H locs cells slots Q (F0 m (pc + 3) ls rest)) : W p l e R s m args below meth c H locs cells slots Q (F0 m pc ls (.int y :: .int x :: rest)) :=
  lv_icmp_le hx hb hdg ht (fun q => kt ((zi_le hX hY).mp q)) (fun q => kf (Int.not_le.mp (fun z => q ((zi_le hX hY).mpr z))))
/-- a branch on a boolean answer -/
theorem z_ifb_eq (hx : p.tables.exec = Jvm.exec) (hb : c.code = cc) {x : Int32} {off : Int} {tgt : Nat} {P : Prop} (hX : isB x P) (hdg : decode cc pc = .ok (.ifCond .eq off, 3)) (ht : (pc : Int) + off = (tgt : Int))
    (kt : ¬ P → W p l e R s m args below meth c H locs cells slots Q (F0 m tgt ls rest)) (kf : P → W p l e R s m args below meth c H locs cells slots Q (F0 m (pc + 3) ls rest)) : W p l e R s m args below meth c H locs cells slots Q (F0 m pc ls (.int x :: rest)) := by
  rcases hX with h | h
  · exact z_if_eq hx hb h.1 hdg ht (fun q => by omega) (fun _ => kf h.2)
  · exact z_if_eq hx hb h.1 hdg ht (fun _ => kt h.2) (fun q => by omega)
theorem z_ifb_ne (hx : p.tables.exec = Jvm.exec) (hb : c.code = cc) {x : Int32} {off : Int} {tgt : Nat} {P : Prop} (hX : isB x P) (hdg : decode cc pc = .ok (.ifCond .ne off, 3)) (ht : (pc : Int) + off = (tgt : Int))
    (kt : P → W p l e R s m args below meth c H locs cells slots Q (F0 m tgt ls rest)) (kf : ¬ P → W p l e R s m args below meth c H locs cells slots Q (F0 m (pc + 3) ls rest)) : W p l e R s m args below meth c H locs cells slots Q (F0 m pc ls (.int x :: rest)) := by
  rcases hX with h | h
  · exact z_if_ne hx hb h.1 hdg ht (fun _ => kt h.2) (fun q => by omega)
  · exact z_if_ne hx hb h.1 hdg ht (fun q => by omega) (fun _ => kf h.2)
end ZR
