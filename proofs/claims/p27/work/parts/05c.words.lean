/-! floor division and rest; the words of waves, shares, phases, texts -/
theorem fd_sgn {i j : Int} (hi : i < 0) (hj : 0 < j) : -j < i.tmod j ∧ i.tmod j ≤ 0 := by
  have h7 : (-i).tmod j = -(i.tmod j) := Int.neg_tmod i j
  have h8 := Int.tmod_lt_of_pos (-i) hj
  have h9 := Int.tmod_nonneg (a := -i) j (by omega)
  omega
theorem fd_eq (i j : Int) : i.tdiv j * j = i - i.tmod j := by
  have e : i.tmod j + j * i.tdiv j = i := Int.tmod_add_mul_tdiv i j
  rw [Int.mul_comm]
  omega
theorem fd_b {i j : Int} (h1 : -2147483648 ≤ i) (h2 : i ≤ 2147483647) (hj : 0 < j) (hi : i < 0) : -2147483648 ≤ i.tdiv j * j ∧ i.tdiv j * j ≤ 2147483647 := by
  have h := fd_sgn hi hj
  rw [fd_eq]
  have h3 : i ≤ i.tmod j := by
    have h7 : (-i).tmod j = -(i.tmod j) := Int.neg_tmod i j
    have hi' : 0 ≤ -i := by omega
    have h9 := Int.tmod_eq_emod_of_nonneg (b := j) hi'
    have h10 : (-i) % j ≤ -i := by
      rcases Int.lt_or_le (-i) j with q | q
      · rw [Int.emod_eq_of_lt hi' q]
        omega
      · have := Int.emod_lt_of_pos (-i) hj
        omega
    omega
  omega
theorem fd_exact {i j : Int} (hj : 0 < j) (h : i.tdiv j * j = i) : i.tdiv j = i / j := (Int.ediv_eq_of_eq_mul_left (by omega) h.symm).symm
theorem fd_neg {i j : Int} (hi : i < 0) (hj : 0 < j) (h : i.tdiv j * j ≠ i) : i.tdiv j - 1 = i / j := by
  have hs := fd_sgn hi hj
  have he := fd_eq i j
  have e : i = (i.tmod j + j) + j * (i.tdiv j - 1) := by
    rw [Int.mul_sub, Int.mul_one, Int.mul_comm j]
    omega
  have e2 : i / j = (i.tmod j + j) / j + (i.tdiv j - 1) := by
    have := Int.add_mul_ediv_left (i.tmod j + j) (i.tdiv j - 1) (show j ≠ 0 by omega)
    rw [← e] at this
    exact this
  rw [e2, Int.ediv_eq_zero_of_lt (by omega) (by omega)]
  omega
theorem fd_lt {i j : Int} (hi : i < 0) (hj : 0 < j) : i / j < 0 := Int.ediv_neg_of_neg_of_pos hi hj
theorem fd_ge {i j : Int} (hi : i < 0) (hj : 0 < j) : i ≤ i / j := by
  have h : i * j ≤ i := by
    have := Int.mul_nonneg (show 0 ≤ -i by omega) (show 0 ≤ j - 1 by omega)
    rw [Int.neg_mul, Int.mul_sub, Int.mul_one] at this
    omega
  exact Int.le_ediv_of_mul_le hj h
theorem fm_0 {i j : Int} (hi : i < 0) (hj : 0 < j) (h : i.tmod j = 0) : i.tmod j = i % j := by
  have he := fd_eq i j
  have e : i = 0 + j * i.tdiv j := by
    rw [Int.mul_comm]
    omega
  have := Int.add_mul_emod_self_left 0 j (i.tdiv j)
  rw [← e] at this
  rw [this, h]
  rfl
theorem fm_neg {i j : Int} (hi : i < 0) (hj : 0 < j) (h : i.tmod j ≠ 0) : i.tmod j + j = i % j := by
  have hs := fd_sgn hi hj
  have he := fd_eq i j
  have e : i = (i.tmod j + j) + j * (i.tdiv j - 1) := by
    rw [Int.mul_sub, Int.mul_one, Int.mul_comm j]
    omega
  have := Int.add_mul_emod_self_left (i.tmod j + j) j (i.tdiv j - 1)
  rw [← e] at this
  rw [this, Int.emod_eq_of_lt (by omega) (by omega)]
/-- the product of two bounded numbers -/
theorem mul_b {a b A B : Int} (ha : -A ≤ a ∧ a ≤ A) (hb : -B ≤ b ∧ b ≤ B) : -(A * B) ≤ a * b ∧ a * b ≤ A * B := by
  have hA : 0 ≤ A := by omega
  have hB : 0 ≤ B := by omega
  have h1 : a.natAbs ≤ A.natAbs := by omega
  have h2 : b.natAbs ≤ B.natAbs := by omega
  have h3 : (a * b).natAbs ≤ (A * B).natAbs := by
    rw [Int.natAbs_mul, Int.natAbs_mul]
    exact Nat.mul_le_mul h1 h2
  have h4 : 0 ≤ A * B := Int.mul_nonneg hA hB
  omega
/-- what is added after some of all hours -/
def shZ (w h a : Int) : Int := if a ≤ 0 then 0 else w * h / a
/-- the phase that is tried at a step -/
def phZ (k : Int) : Int := if k % 2 = 0 then k / 2 else -((k + 1) / 2)
/-- a wave at an hour -/
def hgtZ (A P F h : Int) : Int := if 2 * ((h + F) % P) ≤ P then 4 * A * ((h + F) % P) / P - A else 3 * A - 4 * A * ((h + F) % P) / P
def waveOk (v : Nat → Int32) : Prop := (0 ≤ (v 0).toInt ∧ (v 0).toInt ≤ 3000) ∧ (2 ≤ (v 1).toInt ∧ (v 1).toInt ≤ 48) ∧ (0 ≤ (v 2).toInt ∧ (v 2).toInt ≤ 47)
def waveZ (v : Nat → Int32) (h : Int) : Int := hgtZ (v 0).toInt (v 1).toInt (v 2).toInt h
theorem hgtZ_b {A P F : Int} (hA : 0 ≤ A ∧ A ≤ 3000) (hP : 2 ≤ P ∧ P ≤ 48) (h : Int) : (0 ≤ (h + F) % P ∧ (h + F) % P < P) ∧ (0 ≤ 4 * A * ((h + F) % P) ∧ 4 * A * ((h + F) % P) ≤ 600000) ∧ (0 ≤ 4 * A * ((h + F) % P) / P ∧ 4 * A * ((h + F) % P) / P ≤ 4 * A) := by
  have h1 := Int.emod_nonneg (h + F) (show P ≠ 0 by omega)
  have h2 := Int.emod_lt_of_pos (h + F) (show 0 < P by omega)
  generalize (h + F) % P = q at h1 h2
  have h3 := mul_b (a := 4 * A) (b := q) (A := 12000) (B := 48) (by omega) (by omega)
  have h4 : 0 ≤ 4 * A * q := Int.mul_nonneg (by omega) h1
  refine ⟨⟨h1, h2⟩, ⟨h4, by omega⟩, Int.ediv_nonneg h4 (by omega), ?_⟩
  refine Int.le_of_lt_add_one (Int.ediv_lt_of_lt_mul (by omega) ?_)
  have h5 : 4 * A * q ≤ 4 * A * P := Int.mul_le_mul_of_nonneg_left (by omega) (by omega)
  have h6 : (4 * A + 1) * P = 4 * A * P + P := by rw [Int.add_mul, Int.one_mul]
  omega
theorem waveZ_b {v : Nat → Int32} (hv : waveOk v) (h : Int) : -3000 ≤ waveZ v h ∧ waveZ v h ≤ 3000 := by
  obtain ⟨h1, h2, h3⟩ := hv
  obtain ⟨-, -, h6⟩ := hgtZ_b (F := (v 2).toInt) h1 h2 h
  obtain ⟨⟨g1, g2⟩, -, -⟩ := hgtZ_b (F := (v 2).toInt) h1 h2 h
  have key : ∀ A P q : Int, 0 ≤ A → A ≤ 3000 → 0 < P → 0 ≤ q → q < P → (2 * q ≤ P → 4 * A * q / P ≤ 2 * A) ∧ (¬ 2 * q ≤ P → 2 * A ≤ 4 * A * q / P) := by
    intro A P q a1 a2 a3 a4 a5
    constructor
    · intro h9
      refine Int.le_of_lt_add_one (Int.ediv_lt_of_lt_mul a3 ?_)
      have e1 : 4 * A * q = 2 * A * (2 * q) := by rw [show (4 : Int) = 2 * 2 by rfl, Int.mul_assoc 2 2 A, Int.mul_comm 2 (2 * A), Int.mul_assoc (2 * A) 2 q]
      have e2 : 2 * A * (2 * q) ≤ 2 * A * P := Int.mul_le_mul_of_nonneg_left h9 (by omega)
      have e3 : (2 * A + 1) * P = 2 * A * P + P := by rw [Int.add_mul, Int.one_mul]
      omega
    · intro h9
      refine Int.le_ediv_of_mul_le a3 ?_
      have e1 : 4 * A * q = 2 * A * (2 * q) := by rw [show (4 : Int) = 2 * 2 by rfl, Int.mul_assoc 2 2 A, Int.mul_comm 2 (2 * A), Int.mul_assoc (2 * A) 2 q]
      have e2 : 2 * A * P ≤ 2 * A * (2 * q) := Int.mul_le_mul_of_nonneg_left (by omega) (by omega)
      omega
  have k2 := key (v 0).toInt (v 1).toInt ((h + (v 2).toInt) % (v 1).toInt) (by omega) (by omega) (by omega) g1 g2
  unfold waveZ hgtZ
  split
  · have := k2.1 (by assumption)
    omega
  · have := k2.2 (by assumption)
    omega
/-! texts -/
def chZ (t : TD) (i : Int) : Int := if 0 ≤ i ∧ i < t.1.toInt ∧ i < 60 then (t.2 i.toNat).toInt else 0
def textOk (t : TD) : Prop := (0 ≤ t.1.toInt ∧ t.1.toInt ≤ 60) ∧ ∀ j, 0 ≤ (t.2 j).toInt ∧ (t.2 j).toInt ≤ 65535
theorem chZ_b {t : TD} (h : textOk t) (i : Int) : 0 ≤ chZ t i ∧ chZ t i ≤ 65535 := by
  unfold chZ
  split
  · exact h.2 _
  · omega
theorem zi_narC {v : Int32} (h : 0 ≤ v.toInt ∧ v.toInt ≤ 65535) : narrow .char (.int v) = .int v := by
  obtain ⟨n, hn, e⟩ : ∃ n : Nat, n < 65536 ∧ v = nI n := ⟨v.toInt.toNat, by omega, by
    refine zi_ext rfl ?_
    rw [nI_toInt (by omega)]
    omega⟩
  rw [e]
  exact (pk_charN hn).1
abbrev slP (c : Int) : Prop := c = 120 ∨ c = 111 ∨ c = 99 ∨ c = 108
abbrev dgP (c : Int) : Prop := 48 ≤ c ∧ c ≤ 57
def dboZ (c : Int) : Int := if c = 59 then 0 else 5
def dblZ (c : Int) : Int := if c = 112 then 1 else if slP c then 3 else 5
def dbZ (due c : Int) : Int := if due = 0 then dblZ c else if due = 1 then (if 49 ≤ c ∧ c ≤ 57 then 2 else 5) else if due = 2 then (if dgP c then 4 else dboZ c) else if due = 3 then (if 48 ≤ c ∧ c ≤ 50 then 4 else 5) else if due = 4 then dboZ c else 5
/-- what is due behind the first n characters -/
def dueN (t : TD) : Nat → Int | 0 => 0 | n + 1 => dbZ (dueN t n) (chZ t n)
theorem dueN_s (t : TD) {i : Int} (hi : 0 ≤ i) : dueN t (i + 1).toNat = dbZ (dueN t i.toNat) (chZ t i) := by
  have e : (i + 1).toNat = i.toNat + 1 := by omega
  rw [e]
  show dbZ (dueN t i.toNat) (chZ t ((i.toNat : Nat) : Int)) = _
  rw [show ((i.toNat : Nat) : Int) = i by omega]
def ftB (t : TD) : Int := nthZ (fun j => dueN t (((j : Nat) : Int) + 1).toNat = 5) 0 t.1.toInt.toNat
/-- the fault's place; -1 if there is none -/
def ftZ (t : TD) : Int := if ftB t ≠ -1 then ftB t else if dueN t t.1.toInt.toNat = 4 ∨ dueN t t.1.toInt.toNat = 2 then -1 else t.1.toInt
theorem dbZ_b (due c : Int) : 0 ≤ dbZ due c ∧ dbZ due c ≤ 5 := by
  unfold dbZ dblZ dboZ
  repeat' split
  all_goals omega
theorem dueN_b (t : TD) (n : Nat) : 0 ≤ dueN t n ∧ dueN t n ≤ 5 := by
  cases n with
  | zero => exact ⟨Int.le_refl _, by show (0 : Int) ≤ 5; omega⟩
  | succ n => exact dbZ_b _ _
/-- the number of at most two digits from an index on -/
def nmZ (t : TD) (i : Int) : Int := if ¬ (i < t.1.toInt ∧ dgP (chZ t i)) then 0 else if ¬ (i + 1 < t.1.toInt ∧ dgP (chZ t (i + 1))) then chZ t i - 48 else 10 * (chZ t i - 48) + chZ t (i + 1) - 48
def haF (t : TD) (i : Int) : Int := if chZ t i = 112 then nmZ t (i + 1) else 0
theorem nmZ_b (t : TD) (i : Int) : 0 ≤ nmZ t i ∧ nmZ t i ≤ 99 := by
  unfold nmZ
  repeat' split
  all_goals omega
theorem haF_b (t : TD) (i : Int) : 0 ≤ haF t i ∧ haF t i ≤ 99 := by
  have := nmZ_b t (i + 1)
  unfold haF
  split <;> omega
/-- z_ofW, for a method of the JDK (its class isn't plainly named, but no native row bears its name) -/
theorem z_ofWF {l : Launch} {y : MethodName} {ws ws' : List Cond} {G : xG} {P : Heap → Prop} {av : List Value} {Qc : Array Value → State → Outcome → State → Prop} {free : Addr → Prop} {cc : ByteArray} {maxL : Nat} {ret : Option FieldType} {rm : Room}
    (hy : plainFor y = true) (hw : ws = Cond.code y cc maxL ret :: ws') (hlen : (lg_sl av).length ≤ maxL)
    (body : ∀ p e s m below meth c, p.tables.exec = Jvm.exec → c.code = cc → c.maxLocals = maxL → meth.sig.returnType = ret → (∀ w ∈ ws, w.before av.toArray s = true) → s.vm.findClass y.cls = some m.cls → meth.locks = false → xK G s → P s.heap → ∀ ls, lv_has ls maxL (lv_args 0 av) →
      W p l e rm s m av.toArray below meth c s.heap [] 0 0 (MQ below Qc av.toArray s 0 0 free) (F0 m 0 ls [])) : Met l y ws rm (va_Pc av (zPre G P)) Qc 0 0 free := by
  refine MetFree.of_bodySF (code := cc) (maxLocals := maxL) (ret := ret) hy ?_ ?_
  · intro args s m h hn
    obtain ⟨meth, c, h1, h2, h3, h4, h5, h6, -, -⟩ := Cond.code_spec hn (atoms_spec (ws := ws) h _ (by rw [hw]; exact List.mem_cons_self))
    exact ⟨meth, c, h1, h2, h3, h4, h5, h6⟩
  · intro p e s m args below meth c s₁ B hml hv _
    obtain ⟨rfl, hK, hP⟩ := hv
    have hh0 : s₁.heap = s.heap := by rw [B.state]; rfl
    have hl := lv_entry av (n := maxL) hlen
    have K := body p e s m below meth c B.exec B.bytes hml B.returns (atoms_spec (ws := ws) B.pre) (findClass_of_methodNamed B.named) B.notSynchronized hK hP _ hl s₁ hh0 (Stand.of_body B)
    rw [← lg_entry_eq] at K
    obtain ⟨t, a1, o, b1, b2, b3⟩ := K
    exact ⟨t, o, a1, b1, b2, ⟨b3.1, b3.2⟩⟩
theorem mfT_t {d o : GD} {f h : Int} (h1 : ∀ j : Int, h - 1 ≤ j → j ≤ h → kindZ d j = 0) (h2 : ∀ j : Int, h + f - 1 ≤ j → j ≤ h + f → kindZ o j = 0) : mfT d o f h = abz (riseZ d h - riseZ o (h + f)) := by
  unfold mfT
  rw [if_pos]
  exact ⟨⟨h1 _ (by omega) (by omega), h1 _ (by omega) (by omega)⟩, h2 _ (by omega) (by omega), h2 _ (by omega) (by omega)⟩
theorem mfT_f1 {d o : GD} {f h : Int} (h1 : ¬ ∀ j : Int, h - 1 ≤ j → j ≤ h → kindZ d j = 0) : mfT d o f h = 0 := by
  unfold mfT
  rw [if_neg]
  intro q
  apply h1
  intro j h3 h4
  rcases (show j = h - 1 ∨ j = h by omega) with e | e
  · rw [e]; exact q.1.1
  · rw [e]; exact q.1.2
theorem mfT_f2 {d o : GD} {f h : Int} (h1 : ¬ ∀ j : Int, h + f - 1 ≤ j → j ≤ h + f → kindZ o j = 0) : mfT d o f h = 0 := by
  unfold mfT
  rw [if_neg]
  intro q
  apply h1
  intro j h3 h4
  rcases (show j = h + f - 1 ∨ j = h + f by omega) with e | e
  · rw [e]; exact q.2.1
  · rw [e]; exact q.2.2
theorem ftZ_end {t : TD} {i : Int} (hi : i = t.1.toInt) (h : nthZ (fun j => dueN t (((j : Nat) : Int) + 1).toNat = 5) 0 i.toNat = -1) : ftZ t = if dueN t i.toNat = 4 ∨ dueN t i.toNat = 2 then -1 else t.1.toInt := by
  subst hi
  unfold ftZ
  rw [if_neg]
  unfold ftB
  rw [h]
  omega
theorem ftZ_hit {t : TD} {i : Int} (h0 : 0 ≤ i) (hi : i < t.1.toInt) (h : nthZ (fun j => dueN t (((j : Nat) : Int) + 1).toNat = 5) 0 i.toNat = -1) (h2 : cntZ (fun j => dueN t (((j : Nat) : Int) + 1).toNat = 5) i.toNat = 0) (h3 : dueN t (i + 1).toNat = 5) : ftZ t = i := by
  have e : ftB t = i := by
    unfold ftB
    refine nthZ_hit h0 h ?_ h2 (by omega)
    show dueN t (((i.toNat : Nat) : Int) + 1).toNat = 5
    rw [show ((i.toNat : Nat) : Int) = i by omega]
    exact h3
  unfold ftZ
  rw [if_pos (by omega), e]
theorem nmZ_0 {t : TD} {i : Int} (h : ¬ (i < t.1.toInt ∧ dgP (chZ t i))) : nmZ t i = 0 := by
  unfold nmZ
  rw [if_pos h]
theorem nmZ_1 {t : TD} {i : Int} (h : i < t.1.toInt ∧ dgP (chZ t i)) (h2 : ¬ (i + 1 < t.1.toInt ∧ dgP (chZ t (i + 1)))) : nmZ t i = chZ t i - 48 := by
  unfold nmZ
  rw [if_neg (fun q => q h), if_pos h2]
theorem nmZ_2 {t : TD} {i : Int} (h : i < t.1.toInt ∧ dgP (chZ t i)) (h2 : i + 1 < t.1.toInt ∧ dgP (chZ t (i + 1))) : nmZ t i = 10 * (chZ t i - 48) + chZ t (i + 1) - 48 := by
  unfold nmZ
  rw [if_neg (fun q => q h), if_neg (fun q => q h2)]
/-- how the digits are read: k of them are behind the index i -/
def nmA (t : TD) (i : Int) (k v : Int) : Prop := (k = 0 ∧ v = 0) ∨ (k = 1 ∧ v = chZ t i - 48 ∧ (i < t.1.toInt ∧ dgP (chZ t i))) ∨ (k = 2 ∧ v = 10 * (chZ t i - 48) + chZ t (i + 1) - 48 ∧ (i < t.1.toInt ∧ dgP (chZ t i)) ∧ i + 1 < t.1.toInt ∧ dgP (chZ t (i + 1)))
theorem nmA_b {t : TD} {i k v : Int} (h : nmA t i k v) : 0 ≤ k ∧ k ≤ 2 ∧ 0 ≤ v ∧ v ≤ 99 := by
  rcases h with h | h | h
  · omega
  · have := h.2.2.2; unfold dgP at this; omega
  · have h1 := h.2.2.1.2; have h2 := h.2.2.2.2; unfold dgP at h1 h2; omega
theorem nmA_s {t : TD} {i k v j : Int} (h : nmA t i k v) (hj : j = i + k) (h1 : j < t.1.toInt) (h2 : dgP (chZ t j)) (h3 : ¬ (i + 2 < t.1.toInt ∧ dgP (chZ t (i + 2)))) : nmA t i (k + 1) (10 * v + chZ t j - 48) := by
  subst hj
  rcases h with h | h | h
  · obtain ⟨rfl, rfl⟩ := h
    rw [Int.add_zero] at h1 h2 ⊢
    exact Or.inr (Or.inl ⟨by omega, by omega, h1, h2⟩)
  · obtain ⟨rfl, rfl, h5⟩ := h
    exact Or.inr (Or.inr ⟨by omega, by omega, h5, h1, h2⟩)
  · obtain ⟨rfl, rfl, h5⟩ := h
    exact absurd ⟨h1, h2⟩ h3
theorem nmA_e {t : TD} {i k v j : Int} (h : nmA t i k v) (hj : j = i + k) (h1 : ¬ (j < t.1.toInt ∧ dgP (chZ t j))) : v = nmZ t i := by
  subst hj
  rcases h with h | h | h
  · obtain ⟨rfl, rfl⟩ := h
    rw [Int.add_zero] at h1
    exact (nmZ_0 h1).symm
  · obtain ⟨rfl, rfl, h5⟩ := h
    exact (nmZ_1 h5 h1).symm
  · obtain ⟨rfl, rfl, h5⟩ := h
    exact (nmZ_2 h5.1 h5.2).symm
