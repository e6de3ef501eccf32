/-! what a state of the class is: gauges, waves, the text; and pure words for their answers -/
def abz (a : Int) : Int := if 0 ≤ a then a else -a
theorem zi_narB {v : Int32} {P : Prop} (h : isB v P) : narrow .boolean (.int v) = .int v := by
  rcases h with h | h
  · have : v = 1 := zi_ext h.1 rfl
    subst this
    rfl
  · have : v = 0 := zi_ext h.1 rfl
    subst this
    rfl
section XM
variable {p : Program} {l : Launch} {e : Env} {R : Room} {s : State} {m : MethodId} {args : Array Value} {below : List Frame} {meth : Method} {c : Code} {H : Heap} {locs : List Loc} {cells slots : Nat} {Q : State → Prop}
variable {cc : ByteArray} {pc : Nat} {ls : Array Slot} {rest : List Value}
theorem z_mmax (hx : p.tables.exec = Jvm.exec) (hb : c.code = cc) (hml : c.maxLocals = ls.size) {own : String} {index : Nat} (hown : s.vm.findClass own = some m.cls) (hlink : (Cond.methodLink own index Lib.Math.max.name).before args s = true) (hstat : (Cond.static Lib.Math.max.name).before args s = true) (hini : (Cond.initialized "java/lang/Math").before args s = true) (hcode : (Cond.code Lib.Math.max.name Lib.Math.max.code 2 (some .int)).before args s = true)
    (hframes : 1 ≤ R.frames) (hlocals : (rest.map fun v => v.category).sum + 13 ≤ R.locals) (hc : cells ≤ R.cells) (hs : slots ≤ R.slots) {x y : Int32} {i j : Int} (hX : x.toInt = i) (hY : y.toInt = j) (hdg : decode cc pc = .ok (.invokestatic index, 3))
    (kk : ∀ z : Int32, z.toInt = max i j → W p l e R s m args below meth c H locs cells slots Q (F0 m (pc + 3) ls (.int z :: rest))) : W p l e R s m args below meth c H locs cells slots Q (F0 m pc ls (.int y :: .int x :: rest)) := by
  refine va_mmax hx hb hml hown hlink hstat hini hcode hframes hlocals hc hs hdg (kk _ ?_)
  by_cases h : x < y
  · rw [if_pos h, hY]
    have := (zi_lt hX hY).mp h
    omega
  · rw [if_neg h, hX]
    have : ¬ i < j := fun z => h ((zi_lt hX hY).mpr z)
    omega
theorem z_mabs (hx : p.tables.exec = Jvm.exec) (hb : c.code = cc) (hml : c.maxLocals = ls.size) {own : String} {index : Nat} (hown : s.vm.findClass own = some m.cls) (hlink : (Cond.methodLink own index Lib.Math.abs.name).before args s = true) (hstat : (Cond.static Lib.Math.abs.name).before args s = true) (hini : (Cond.initialized "java/lang/Math").before args s = true) (hcode : (Cond.code Lib.Math.abs.name Lib.Math.abs.code 1 (some .int)).before args s = true)
    (hframes : 1 ≤ R.frames) (hlocals : (rest.map fun v => v.category).sum + 13 ≤ R.locals) (hc : cells ≤ R.cells) (hs : slots ≤ R.slots) {x : Int32} {i : Int} (hX : x.toInt = i) (h : -2147483647 ≤ i) (hdg : decode cc pc = .ok (.invokestatic index, 3))
    (kk : ∀ z : Int32, z.toInt = abz i → W p l e R s m args below meth c H locs cells slots Q (F0 m (pc + 3) ls (.int z :: rest))) : W p l e R s m args below meth c H locs cells slots Q (F0 m pc ls (.int x :: rest)) := by
  refine va_mabs hx hb hml hown hlink hstat hini hcode hframes hlocals hc hs hdg (kk _ ?_)
  have h9 := zi_hi x
  by_cases h : 0 ≤ x
  · have h1 := (zi_le zi_0 hX).mp h
    rw [if_pos h, hX, abz, if_pos h1]
  · have h1 : ¬ 0 ≤ i := fun z => h ((zi_le zi_0 hX).mpr z)
    rw [if_neg h, abz, if_neg h1, zi_sub zi_0 hX (by omega)]
    omega
end XM
/-- a gauge: its twelve numbers, its kinds, its values, its corrections -/
abbrev GD : Type := (Nat → Int32) × (Nat → Int32) × (Nat → Int32) × (Nat → Int32)
def gF (z : Nat) (f : Nat → Int32) : List Value := [.int (f 0), .int (f 1), .int (f 2), .int (f 3), .int (f 4), .int (f 5), .int (f 6), .int (f 7), .int (f 8), .int (f 9), .int (f 10), .int (f 11), .ref (z + 1), .ref (z + 2), .ref (z + 3)]
def GA (G : xG) (H : Heap) (g : Nat) (d : GD) : Prop := xat G H g (.inr (0, gF g d.1)) ∧ xat G H (g + 1) (.inl (G.2.1, 120, .inl d.2.1)) ∧ xat G H (g + 2) (.inl (G.2.1, 120, .inl d.2.2.1)) ∧ xat G H (g + 3) (.inl (G.2.1, 120, .inl d.2.2.2))
theorem GA.kept {G : xG} {H H1 : Heap} {g : Nat} {d : GD} (h : GA G H g d) (hq : ∀ q : Nat, g ≤ q → q < g + 4 → H1[q]? = H[q]?) : GA G H1 g d :=
  ⟨h.1.kept (hq _ (by omega) (by omega)), h.2.1.kept (hq _ (by omega) (by omega)), h.2.2.1.kept (hq _ (by omega) (by omega)), h.2.2.2.kept (hq _ (by omega) (by omega))⟩
theorem xat.lt {G : xG} {H : Heap} {a : Nat} {e : va_E} (h : xat G H a e) : a < H.size := va_at.lt h
theorem GA.lt {G : xG} {H : Heap} {g : Nat} {d : GD} (h : GA G H g d) : g + 3 < H.size := h.2.2.2.lt
/-- a wave: amplitude, period, phase -/
def WV (G : xG) (H : Heap) (w : Nat) (v : Nat → Int32) : Prop := xat G H w (.inr (3, [.int (v 0), .int (v 1), .int (v 2)]))
/-- the text: its length, its characters -/
abbrev TD : Type := Int32 × (Nat → Int32)
def TX (G : xG) (H : Heap) (x : Nat) (t : TD) : Prop := xat G H x (.inr (1, [.int t.1, .ref (x + 1)])) ∧ xat G H (x + 1) (.inl (G.2.2.1, 60, .inl t.2))
theorem GA.to {G : xG} {H : Heap} {g : Nat} {d d' : GD} (h : GA G H g d) (e : d = d') : GA G H g d' := e ▸ h
theorem gF_set (z : Nat) (f : Nat → Int32) (k : Nat) (hk : k < 12) (v : Int32) : (gF z f).set k (.int v) = gF z (upd f k v) := by
  have h : k = 0 ∨ k = 1 ∨ k = 2 ∨ k = 3 ∨ k = 4 ∨ k = 5 ∨ k = 6 ∨ k = 7 ∨ k = 8 ∨ k = 9 ∨ k = 10 ∨ k = 11 := by omega
  rcases h with h | h | h | h | h | h | h | h | h | h | h | h <;> subst h <;> rfl
theorem zi_fitB {v : Int32} {P : Prop} (h : isB v P) : fits .boolean (.int v) = true := by
  rcases h with h | h
  · have : v = 1 := zi_ext h.1 rfl
    subst this
    rfl
  · have : v = 0 := zi_ext h.1 rfl
    subst this
    rfl
section XW
variable {p : Program} {l : Launch} {e : Env} {R : Room} {s : State} {m : MethodId} {args : Array Value} {below : List Frame} {meth : Method} {c : Code} {H : Heap} {locs : List Loc} {cells slots : Nat} {Q : State → Prop}
variable {cc : ByteArray} {pc : Nat} {ls : Array Slot} {rest : List Value} {G : xG} {A : Nat → Prop} {g : Nat} {H0 : Heap} {d : GD}
theorem z_putG (hx : p.tables.exec = Jvm.exec) (hb : c.code = cc) {own ref : String} {index : Nat} {Ts : List Cond} (hts : ∀ w ∈ Ts, w.before args s = true) (hin : ∀ w ∈ u_ws RX0 TX0 15, w ∈ Ts) (hown : s.vm.findClass own = some m.cls) (hK : xK G s) (hG : GA G H g d) (hS0 : va_S A H0 H locs) (ha : A g) (k : Nat) (hk : k < 12) (hlink : Cond.fieldLink own index ref (TX0 k).2.1 (TX0 k).2.2.1 ∈ Ts) (hr : (TX0 k).1 = ref) (hfin : (TX0 k).2.2.2 = false) {ty : FieldType} {v : Int32} (hd : parseFieldDescriptor (TX0 k).2.2.1 = some ty) (hn : narrow ty (.int v) = .int v) (hfit : fits ty (.int v) = true)
    (hdg : decode cc pc = .ok (.putfield index, 3)) (kk : ∀ (H1 : Heap) (locs1 : List Loc), GA G H1 g (upd d.1 k v, d.2) → H1.size = H.size → (∀ q : Nat, q ≠ g → H1[q]? = H[q]?) → va_S A H0 H1 locs1 → W p l e R s m args below meth c H1 locs1 cells slots Q (F0 m (pc + 3) ls rest)) : W p l e R s m args below meth c H locs cells slots Q (F0 m pc ls (.int v :: .ref g :: rest)) := by
  refine z_put hx hb hts hin tyX0 tyX0_ok nmX0 hown hK hG.1 rfl hS0 ha k (by omega) hlink hr hfin hd hn hfit (by show k < 15; omega) hdg (fun H1 locs1 h1 hz hq hS => ?_)
  rw [gF_set g d.1 k hk v] at h1
  exact kk H1 locs1 ⟨h1, hG.2.1.kept (hq _ (by omega)), hG.2.2.1.kept (hq _ (by omega)), hG.2.2.2.kept (hq _ (by omega))⟩ hz hq hS
theorem z_iastK (hx : p.tables.exec = Jvm.exec) (hb : c.code = cc) (hK : xK G s) (hG : GA G H g d) (hS0 : va_S A H0 H locs) (ha : A (g + 1)) {x z : Int32} {i : Int} (hX : x.toInt = i) (h : 0 ≤ i ∧ i < ((120 : Nat) : Int)) (hdg : decode cc pc = .ok (.iastore, 1))
    (kk : ∀ (H1 : Heap) (locs1 : List Loc), GA G H1 g (d.1, upd d.2.1 i.toNat z, d.2.2) → H1.size = H.size → (∀ q : Nat, q ≠ g + 1 → H1[q]? = H[q]?) → va_S A H0 H1 locs1 → W p l e R s m args below meth c H1 locs1 cells slots Q (F0 m (pc + 1) ls rest)) : W p l e R s m args below meth c H locs cells slots Q (F0 m pc ls (.int z :: .int x :: .ref (g + 1) :: rest)) :=
  z_iast hx hb hK 0 hG.2.1 rfl hS0 ha hX h hdg (fun H1 locs1 h1 hz hq hS => kk H1 locs1 ⟨hG.1.kept (hq _ (by omega)), h1, hG.2.2.1.kept (hq _ (by omega)), hG.2.2.2.kept (hq _ (by omega))⟩ hz hq hS)
theorem z_iastV (hx : p.tables.exec = Jvm.exec) (hb : c.code = cc) (hK : xK G s) (hG : GA G H g d) (hS0 : va_S A H0 H locs) (ha : A (g + 2)) {x z : Int32} {i : Int} (hX : x.toInt = i) (h : 0 ≤ i ∧ i < ((120 : Nat) : Int)) (hdg : decode cc pc = .ok (.iastore, 1))
    (kk : ∀ (H1 : Heap) (locs1 : List Loc), GA G H1 g (d.1, d.2.1, upd d.2.2.1 i.toNat z, d.2.2.2) → H1.size = H.size → (∀ q : Nat, q ≠ g + 2 → H1[q]? = H[q]?) → va_S A H0 H1 locs1 → W p l e R s m args below meth c H1 locs1 cells slots Q (F0 m (pc + 1) ls rest)) : W p l e R s m args below meth c H locs cells slots Q (F0 m pc ls (.int z :: .int x :: .ref (g + 2) :: rest)) :=
  z_iast hx hb hK 0 hG.2.2.1 rfl hS0 ha hX h hdg (fun H1 locs1 h1 hz hq hS => kk H1 locs1 ⟨hG.1.kept (hq _ (by omega)), hG.2.1.kept (hq _ (by omega)), h1, hG.2.2.2.kept (hq _ (by omega))⟩ hz hq hS)
theorem z_iastC (hx : p.tables.exec = Jvm.exec) (hb : c.code = cc) (hK : xK G s) (hG : GA G H g d) (hS0 : va_S A H0 H locs) (ha : A (g + 3)) {x z : Int32} {i : Int} (hX : x.toInt = i) (h : 0 ≤ i ∧ i < ((120 : Nat) : Int)) (hdg : decode cc pc = .ok (.iastore, 1))
    (kk : ∀ (H1 : Heap) (locs1 : List Loc), GA G H1 g (d.1, d.2.1, d.2.2.1, upd d.2.2.2 i.toNat z) → H1.size = H.size → (∀ q : Nat, q ≠ g + 3 → H1[q]? = H[q]?) → va_S A H0 H1 locs1 → W p l e R s m args below meth c H1 locs1 cells slots Q (F0 m (pc + 1) ls rest)) : W p l e R s m args below meth c H locs cells slots Q (F0 m pc ls (.int z :: .int x :: .ref (g + 3) :: rest)) :=
  z_iast hx hb hK 0 hG.2.2.2 rfl hS0 ha hX h hdg (fun H1 locs1 h1 hz hq hS => kk H1 locs1 ⟨hG.1.kept (hq _ (by omega)), hG.2.1.kept (hq _ (by omega)), hG.2.2.1.kept (hq _ (by omega)), h1⟩ hz hq hS)
end XW
/-! pure words of a gauge's answers -/
/-- what a row holds at an hour, v outside of the 120 hours -/
def rowZ (v : Int) (f : Nat → Int32) (h : Int) : Int := if 0 ≤ h ∧ h < 120 then (f h.toNat).toInt else v
def kindZ (d : GD) (h : Int) : Int := rowZ 3 d.2.1 h
def corrZ (d : GD) (h : Int) : Int := rowZ 0 d.2.2.2 h
def readZ (d : GD) (h : Int) : Int := rowZ 0 d.2.2.1 h
def cordZ (d : GD) (h : Int) : Int := readZ d h - corrZ d h
def valZ (d : GD) (h : Int) : Int := if kindZ d h = 2 then readZ d h else cordZ d h
/-- how many of the numbers below n have it -/
def cntZ (q : Nat → Prop) [DecidablePred q] : Nat → Int | 0 => 0 | n + 1 => cntZ q n + if q n then 1 else 0
/-- rounded towards lesser numbers -/
def fdv (a b : Int) : Int := a / b
/-- all numbers in a gauge's rows are small enough that no sum of them overflows -/
def smallG (d : GD) : Prop := (∀ j, -1000000 ≤ (d.2.2.1 j).toInt ∧ (d.2.2.1 j).toInt ≤ 1000000) ∧ ∀ j, -1000 ≤ (d.2.2.2 j).toInt ∧ (d.2.2.2 j).toInt ≤ 1000
theorem rowZ_b {v lo hi : Int} {f : Nat → Int32} (hv : lo ≤ v ∧ v ≤ hi) (h : ∀ j, lo ≤ (f j).toInt ∧ (f j).toInt ≤ hi) (i : Int) : lo ≤ rowZ v f i ∧ rowZ v f i ≤ hi := by
  unfold rowZ
  split
  · exact h _
  · exact hv
theorem smallG.read {d : GD} (h : smallG d) (i : Int) : -1000000 ≤ readZ d i ∧ readZ d i ≤ 1000000 := rowZ_b (by omega) h.1 i
theorem smallG.corr {d : GD} (h : smallG d) (i : Int) : -1000 ≤ corrZ d i ∧ corrZ d i ≤ 1000 := rowZ_b (by omega) h.2 i
theorem smallG.cord {d : GD} (h : smallG d) (i : Int) : -1001000 ≤ cordZ d i ∧ cordZ d i ≤ 1001000 := by
  have := h.read i
  have := h.corr i
  unfold cordZ
  omega

abbrev hvP (d : GD) (h : Int) : Prop := kindZ d h = 0 ∨ kindZ d h = 2
abbrev igP (d : GD) (h : Int) : Prop := kindZ d h = 1 ∨ kindZ d h = 2
abbrev sgP (d : GD) (h : Int) : Prop := igP d h ∧ ¬ igP d (h - 1)
abbrev hiP (d : GD) (h : Int) : Prop := hvP d (h - 1) ∧ hvP d h ∧ hvP d (h + 1) ∧ valZ d (h - 1) < valZ d h ∧ valZ d (h + 1) < valZ d h
theorem smallG.val {d : GD} (h : smallG d) (i : Int) : -1001000 ≤ valZ d i ∧ valZ d i ≤ 1001000 := by
  have := h.read i
  have := h.cord i
  unfold valZ
  split <;> omega
theorem cntZ_b (q : Nat → Prop) [DecidablePred q] (n : Nat) : 0 ≤ cntZ q n ∧ cntZ q n ≤ n := by
  induction n with
  | zero => exact ⟨Int.le_refl _, Int.le_refl _⟩
  | succ n ih =>
    show 0 ≤ cntZ q n + _ ∧ cntZ q n + _ ≤ _
    split <;> omega
theorem cntZ_t {q : Nat → Prop} [DecidablePred q] {i : Int} (hi : 0 ≤ i) (h : q i.toNat) : cntZ q (i + 1).toNat = cntZ q i.toNat + 1 := by
  have e : (i + 1).toNat = i.toNat + 1 := by omega
  rw [e]
  show cntZ q i.toNat + _ = _
  rw [if_pos h]
theorem cntZ_f {q : Nat → Prop} [DecidablePred q] {i : Int} (hi : 0 ≤ i) (h : ¬ q i.toNat) : cntZ q (i + 1).toNat = cntZ q i.toNat := by
  have e : (i + 1).toNat = i.toNat + 1 := by omega
  rw [e]
  show cntZ q i.toNat + _ = _
  rw [if_neg h, Int.add_zero]
theorem cntZ_mono (q : Nat → Prop) [DecidablePred q] {a b : Nat} (h : a ≤ b) : cntZ q a ≤ cntZ q b := by
  induction b with
  | zero => have : a = 0 := by omega
            subst this; exact Int.le_refl _
  | succ b ih =>
    rcases Nat.lt_or_ge a (b + 1) with g | g
    · have := ih (by omega)
      show _ ≤ cntZ q b + _
      split <;> omega
    · have : a = b + 1 := by omega
      subst this
      exact Int.le_refl _
theorem cntZ_congr {q r : Nat → Prop} [DecidablePred q] [DecidablePred r] {n : Nat} (h : ∀ j, j < n → (q j ↔ r j)) : cntZ q n = cntZ r n := by
  induction n with
  | zero => rfl
  | succ n ih =>
    show cntZ q n + _ = cntZ r n + _
    rw [ih (fun j hj => h j (by omega))]
    congr 1
    by_cases g : q n
    · rw [if_pos g, if_pos ((h n (by omega)).mp g)]
    · rw [if_neg g, if_neg (fun z => g ((h n (by omega)).mpr z))]
/-- the first number below n that has q and has k of them ahead of it; -1 if there is none -/
def nthZ (q : Nat → Prop) [DecidablePred q] (k : Int) : Nat → Int
  | 0 => -1
  | n + 1 => if nthZ q k n = -1 then (if q n ∧ cntZ q n = k then (n : Int) else -1) else nthZ q k n
theorem nthZ_step {q : Nat → Prop} [DecidablePred q] {k i : Int} (hi : 0 ≤ i) (h : nthZ q k i.toNat = -1) (h2 : ¬ (q i.toNat ∧ cntZ q i.toNat = k)) : nthZ q k (i + 1).toNat = -1 := by
  have e : (i + 1).toNat = i.toNat + 1 := by omega
  rw [e]
  show (if _ then _ else _) = _
  rw [if_pos h, if_neg h2]
theorem nthZ_keep {q : Nat → Prop} [DecidablePred q] {k v : Int} {a b : Nat} (hv : v ≠ -1) (h : nthZ q k a = v) (hab : a ≤ b) : nthZ q k b = v := by
  induction b with
  | zero => have : a = 0 := by omega
            subst this; exact h
  | succ b ih =>
    rcases Nat.lt_or_ge a (b + 1) with g | g
    · have := ih (by omega)
      show (if _ then _ else _) = _
      rw [if_neg (by rw [this]; exact hv), this]
    · have : a = b + 1 := by omega
      subst this
      exact h
theorem nthZ_hit {q : Nat → Prop} [DecidablePred q] {k i : Int} {n : Nat} (hi : 0 ≤ i) (h : nthZ q k i.toNat = -1) (h2 : q i.toNat) (h3 : cntZ q i.toNat = k) (hn : i < (n : Int)) : nthZ q k n = i := by
  have e : nthZ q k (i.toNat + 1) = i := by
    show (if _ then _ else _) = _
    rw [if_pos h, if_pos ⟨h2, h3⟩]
    omega
  exact nthZ_keep (by omega) e (by omega)
theorem nthZ_b (q : Nat → Prop) [DecidablePred q] (k : Int) (n : Nat) : -1 ≤ nthZ q k n ∧ nthZ q k n < n := by
  induction n with
  | zero => exact ⟨Int.le_refl _, by show (-1 : Int) < 0; omega⟩
  | succ n ih =>
    show -1 ≤ (if _ then _ else _) ∧ (if _ then _ else _) < _
    split
    · split <;> omega
    · omega
/-- the first hour of a gap, by its number; -1 if there is none -/
def fgZ (d : GD) (k : Int) : Int := nthZ (fun j => sgP d (j : Int)) k 120
theorem fgZ_b (d : GD) (k : Int) : -1 ≤ fgZ d k ∧ fgZ d k < 120 := nthZ_b _ k 120
/-- the first hour from h on that isn't in a gap, or 120 -/
def hbF (d : GD) : Nat → Int → Int
  | 0, h => h
  | n + 1, h => if h < 120 ∧ igP d h then hbF d n (h + 1) else h
def hbZ (d : GD) (h : Int) : Int := hbF d (120 - h).toNat h
theorem hbZ_t {d : GD} {h : Int} (h1 : h < 120) (h2 : igP d h) : hbZ d h = hbZ d (h + 1) := by
  unfold hbZ
  have e : (120 - h).toNat = (120 - (h + 1)).toNat + 1 := by omega
  rw [e]
  show (if _ then _ else _) = _
  rw [if_pos ⟨h1, h2⟩]
theorem hbZ_f {d : GD} {h : Int} (h1 : ¬ (h < 120 ∧ igP d h)) : hbZ d h = h := by
  unfold hbZ
  cases (120 - h).toNat with
  | zero => rfl
  | succ n =>
    show (if _ then _ else _) = _
    rw [if_neg h1]
theorem hbF_b (d : GD) : ∀ (n : Nat) (h : Int), h ≤ hbF d n h ∧ hbF d n h ≤ h + n := by
  intro n
  induction n with
  | zero => intro h; exact ⟨Int.le_refl _, by show h ≤ h + 0; omega⟩
  | succ n ih =>
    intro h
    show h ≤ (if _ then _ else _) ∧ (if _ then _ else _) ≤ _
    have := ih (h + 1)
    split <;> omega
theorem hbZ_b (d : GD) {h : Int} (hh : h ≤ 120) : h ≤ hbZ d h ∧ hbZ d h ≤ 120 := by
  have := hbF_b d (120 - h).toNat h
  unfold hbZ
  omega
/-- how many of the n numbers from a on have it; what they sum up to -/
def sumZ (f : Int → Int) (a : Int) : Nat → Int | 0 => 0 | n + 1 => sumZ f a n + f (a + n)
theorem sumZ_s {f : Int → Int} {a i : Int} (h : a ≤ i) : sumZ f a (i + 1 - a).toNat = sumZ f a (i - a).toNat + f i := by
  have e : (i + 1 - a).toNat = (i - a).toNat + 1 := by omega
  rw [e]
  show sumZ f a (i - a).toNat + f (a + (((i - a).toNat : Nat) : Int)) = _
  have e2 : a + (((i - a).toNat : Nat) : Int) = i := by omega
  rw [e2]
theorem sumZ_0 {f : Int → Int} {a i : Int} (h : i ≤ a) : sumZ f a (i - a).toNat = 0 := by
  have e : (i - a).toNat = 0 := by omega
  rw [e]
  rfl
theorem sumZ_b {f : Int → Int} {lo hi : Int} (hlo : lo ≤ 0) (hhi : 0 ≤ hi) (h : ∀ i, lo ≤ f i ∧ f i ≤ hi) (a : Int) (n : Nat) : lo * n ≤ sumZ f a n ∧ sumZ f a n ≤ hi * n := by
  induction n with
  | zero => exact ⟨by simp [sumZ], by simp [sumZ]⟩
  | succ n ih =>
    have := h (a + n)
    show lo * ((n + 1 : Nat) : Int) ≤ sumZ f a n + f (a + n) ∧ sumZ f a n + f (a + n) ≤ hi * ((n + 1 : Nat) : Int)
    have e1 : lo * ((n + 1 : Nat) : Int) = lo * n + lo := by rw [Int.natCast_succ, Int.mul_add, Int.mul_one]
    have e2 : hi * ((n + 1 : Nat) : Int) = hi * n + hi := by rw [Int.natCast_succ, Int.mul_add, Int.mul_one]
    omega
/-- how much a corrected reading rises at an hour -/
def riseZ (d : GD) (h : Int) : Int := cordZ d h - cordZ d (h - 1)
/-- what an hour adds to a misfit -/
def mfT (d o : GD) (f h : Int) : Int := if (kindZ d (h - 1) = 0 ∧ kindZ d h = 0) ∧ kindZ o (h + f - 1) = 0 ∧ kindZ o (h + f) = 0 then abz (riseZ d h - riseZ o (h + f)) else 0
theorem smallG.rise {d : GD} (h : smallG d) (i : Int) : -2002000 ≤ riseZ d i ∧ riseZ d i ≤ 2002000 := by
  have := h.cord i
  have := h.cord (i - 1)
  unfold riseZ
  omega
theorem mfT_b {d o : GD} (h : smallG d) (g : smallG o) (f i : Int) : 0 ≤ mfT d o f i ∧ mfT d o f i ≤ 4004000 := by
  have := h.rise i
  have := g.rise (i + f)
  unfold mfT abz
  split
  · split <;> omega
  · omega
theorem cntI_t {q : Int → Prop} [DecidablePred q] {i : Int} (hi : 0 ≤ i) (h : q i) : cntZ (fun j => q (j : Int)) (i + 1).toNat = cntZ (fun j => q (j : Int)) i.toNat + 1 := by
  refine cntZ_t (q := fun j => q (j : Int)) hi ?_
  have e : ((i.toNat : Nat) : Int) = i := by omega
  show q _
  rw [e]
  exact h
theorem cntI_f {q : Int → Prop} [DecidablePred q] {i : Int} (hi : 0 ≤ i) (h : ¬ q i) : cntZ (fun j => q (j : Int)) (i + 1).toNat = cntZ (fun j => q (j : Int)) i.toNat := by
  refine cntZ_f (q := fun j => q (j : Int)) hi ?_
  have e : ((i.toNat : Nat) : Int) = i := by omega
  show ¬ q _
  rw [e]
  exact h
theorem nthI_step {q : Int → Prop} [DecidablePred q] {k i : Int} (hi : 0 ≤ i) (h : nthZ (fun j => q (j : Int)) k i.toNat = -1) (h2 : ¬ (q i ∧ cntZ (fun j => q (j : Int)) i.toNat = k)) : nthZ (fun j => q (j : Int)) k (i + 1).toNat = -1 := by
  refine nthZ_step (q := fun j => q (j : Int)) hi h ?_
  have e : ((i.toNat : Nat) : Int) = i := by omega
  show ¬ (q _ ∧ _)
  rw [e]
  exact h2
theorem nthI_hit {q : Int → Prop} [DecidablePred q] {k i : Int} {n : Nat} (hi : 0 ≤ i) (h : nthZ (fun j => q (j : Int)) k i.toNat = -1) (h2 : q i) (h3 : cntZ (fun j => q (j : Int)) i.toNat = k) (hn : i < (n : Int)) : nthZ (fun j => q (j : Int)) k n = i := by
  refine nthZ_hit (q := fun j => q (j : Int)) hi h ?_ h3 hn
  have e : ((i.toNat : Nat) : Int) = i := by omega
  show q _
  rw [e]
  exact h2
