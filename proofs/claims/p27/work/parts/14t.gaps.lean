/-! gaps, by both ways of counting -/
theorem kind_out {d : GD} {n h : Int} (hd : gaugeOk d n) (hn : n ≤ 120) (hh : ¬ (0 ≤ h ∧ h < n)) : kindZ d h = 3 := by
  unfold kindZ rowZ
  split
  · exact hd.2.2.2.2.2.2.2.1 h.toNat (by omega)
  · rfl
theorem kind_b {d : GD} {n h : Int} (hd : gaugeOk d n) (hn : n ≤ 120) (hh : 0 ≤ h ∧ h < n) : kindZ d h = 0 ∨ kindZ d h = 1 ∨ kindZ d h = 2 := by
  have h1 := hd.2.2.2.2.2.2.1 h.toNat (by omega)
  unfold kindZ rowZ
  rw [if_pos (by omega)]
  exact h1
theorem ig_iff {d : GD} {n h : Int} (hd : gaugeOk d n) (hn : n ≤ 120) : igP d h ↔ (0 ≤ h ∧ h < n) ∧ kindZ d h ≠ 0 := by
  by_cases c : 0 ≤ h ∧ h < n
  · have := kind_b hd hn c
    unfold igP
    constructor <;> intro q <;> omega
  · have := kind_out hd hn c
    unfold igP
    constructor <;> intro q <;> omega
theorem sg_iff {d : GD} {n h : Int} (hd : gaugeOk d n) (hn : n ≤ 120) : sgP d h ↔ (0 ≤ h ∧ h < n) ∧ kindZ d h ≠ 0 ∧ (h = 0 ∨ kindZ d (h - 1) = 0) := by
  have h1 := ig_iff (h := h) hd hn
  have h2 := ig_iff (h := h - 1) hd hn
  unfold sgP
  rw [h1, h2]
  constructor
  · rintro ⟨q, r⟩
    refine ⟨q.1, q.2, ?_⟩
    by_cases e : h = 0
    · exact Or.inl e
    · by_cases e2 : kindZ d (h - 1) = 0
      · exact Or.inr e2
      · exact absurd ⟨by omega, e2⟩ r
  · rintro ⟨q, r, s⟩
    refine ⟨⟨q, r⟩, fun w => ?_⟩
    rcases s with s | s
    · omega
    · exact w.2 s
theorem cntZ_tail {q : Nat → Prop} [DecidablePred q] {a b : Nat} (hab : a ≤ b) (h : ∀ j, a ≤ j → j < b → ¬ q j) : cntZ q b = cntZ q a := by
  induction b with
  | zero => rw [show a = 0 by omega]
  | succ b ih =>
    rcases Nat.lt_or_ge a (b + 1) with g | g
    · show cntZ q b + (if q b then 1 else 0) = _
      rw [if_neg (h b (by omega) (by omega)), ih (by omega) (fun j x y => h j x (by omega))]
      omega
    · rw [show a = b + 1 by omega]
theorem nthZ_spec {q : Nat → Prop} [DecidablePred q] {k v : Int} {n : Nat} (h : nthZ q k n = v) (hv : v ≠ -1) : 0 ≤ v ∧ v < n ∧ q v.toNat ∧ cntZ q v.toNat = k := by
  induction n with
  | zero => exact absurd h.symm hv
  | succ n ih =>
    have h1 : (if nthZ q k n = -1 then (if q n ∧ cntZ q n = k then (n : Int) else -1) else nthZ q k n) = v := h
    by_cases c : nthZ q k n = -1
    · rw [if_pos c] at h1
      by_cases c2 : q n ∧ cntZ q n = k
      · rw [if_pos c2] at h1
        subst h1
        exact ⟨by omega, by omega, c2.1, c2.2⟩
      · rw [if_neg c2] at h1
        exact absurd h1.symm hv
    · rw [if_neg c] at h1
      have := ih h1
      exact ⟨this.1, by omega, this.2.2⟩
theorem cntZ_up {q : Nat → Prop} [DecidablePred q] {j n : Nat} (h : q j) (hj : j < n) : cntZ q j + 1 ≤ cntZ q n := by
  have h1 := cntZ_mono q (show j + 1 ≤ n by omega)
  have h3 : cntZ q (j + 1) = cntZ q j + 1 := by
    show cntZ q j + (if q j then 1 else 0) = _
    rw [if_pos h]
  omega
theorem nthZ_no {q : Nat → Prop} [DecidablePred q] {k : Int} {n : Nat} (h : nthZ q k n ≠ -1) : 0 ≤ k ∧ k < cntZ q n := by
  obtain ⟨h1, h2, h3, h4⟩ := nthZ_spec rfl h
  have h5 := cntZ_up h3 (show (nthZ q k n).toNat < n by omega)
  have h6 := (cntZ_b q (nthZ q k n).toNat).1
  omega
theorem nthZ_ex {q : Nat → Prop} [DecidablePred q] {k : Int} {n : Nat} (h0 : 0 ≤ k) (h : k < cntZ q n) : nthZ q k n ≠ -1 := by
  induction n with
  | zero =>
    have : cntZ q 0 = 0 := rfl
    omega
  | succ n ih =>
    show (if nthZ q k n = -1 then (if q n ∧ cntZ q n = k then (n : Int) else -1) else nthZ q k n) ≠ -1
    have h1 : cntZ q (n + 1) = cntZ q n + (if q n then 1 else 0) := rfl
    by_cases c : nthZ q k n = -1
    · rw [if_pos c]
      have h2 : ¬ k < cntZ q n := fun w => ih w c
      by_cases c2 : q n
      · rw [if_pos c2] at h1
        rw [if_pos ⟨c2, by omega⟩]
        omega
      · rw [if_neg c2] at h1
        omega
    · rw [if_neg c]
      exact c
theorem nthZ_eq {q : Nat → Prop} [DecidablePred q] {k i : Int} {n : Nat} (hi : 0 ≤ i) (h2 : q i.toNat) (h3 : cntZ q i.toNat = k) (hn : i < (n : Int)) : nthZ q k n = i := by
  refine nthZ_hit hi ?_ h2 h3 hn
  by_cases c : nthZ q k i.toNat = -1
  · exact c
  · have := (nthZ_no c).2
    omega
theorem gapsZ_n {d : GD} {n : Int} (hd : gaugeOk d n) (hn : 0 ≤ n ∧ n ≤ 120) : cntZ (fun j => sgP d (j : Int)) n.toNat = gapsZ d := by
  unfold gapsZ
  refine (cntZ_tail (by omega) (fun j a b => ?_)).symm
  rw [sg_iff hd hn.2]
  omega
theorem gap_iff {d : GD} {k : Int} : (0 ≤ k ∧ k ≤ gapsZ d - 1) ↔ fgZ d k ≠ -1 := by
  unfold gapsZ fgZ
  constructor
  · intro q
    exact nthZ_ex q.1 (by omega)
  · intro q
    have := nthZ_no q
    omega
theorem fg_spec {d : GD} {k : Int} (h : fgZ d k ≠ -1) : 0 ≤ fgZ d k ∧ fgZ d k < 120 ∧ sgP d (fgZ d k) ∧ 0 ≤ k ∧ k < gapsZ d := by
  obtain ⟨h1, h2, h3, h4⟩ := nthZ_spec (q := fun j => sgP d (j : Int)) (k := k) (n := 120) rfl h
  have h5 := nthZ_no (q := fun j => sgP d (j : Int)) h
  refine ⟨h1, h2, ?_, h5.1, h5.2⟩
  have e : (((nthZ (fun j => sgP d (j : Int)) k 120).toNat : Nat) : Int) = fgZ d k := by
    have h1' : 0 ≤ fgZ d k := h1
    show (((fgZ d k).toNat : Nat) : Int) = fgZ d k
    omega
  have h6 : sgP d (((nthZ (fun j => sgP d (j : Int)) k 120).toNat : Nat) : Int) := h3
  rw [e] at h6
  exact h6
theorem hbZ_le {d : GD} {n : Int} (hd : gaugeOk d n) (hn : n ≤ 120) : ∀ (m : Nat) (b : Int), (n - b).toNat ≤ m → b ≤ n → hbZ d b ≤ n ∧ (hbZ d b < n → 0 ≤ b → kindZ d (hbZ d b) = 0) := by
  intro m
  induction m with
  | zero =>
    intro b h1 h2
    have h3 : ¬ (b < 120 ∧ igP d b) := by
      rw [ig_iff hd hn]
      omega
    rw [hbZ_f h3]
    exact ⟨h2, fun q => by omega⟩
  | succ m ih =>
    intro b h1 h2
    by_cases c : b < 120 ∧ igP d b
    · rw [hbZ_t c.1 c.2]
      have c2 := (ig_iff hd hn).mp c.2
      have := ih (b + 1) (by omega) (by omega)
      exact ⟨this.1, fun q r => this.2 q (by omega)⟩
    · rw [hbZ_f c]
      refine ⟨h2, fun q r => ?_⟩
      by_cases e : kindZ d b = 0
      · exact e
      · exact absurd ⟨by omega, (ig_iff hd hn).mpr ⟨⟨r, q⟩, e⟩⟩ c
theorem in_iff {d : GD} {n k : Int} (hd : gaugeOk d n) (hn : n ≤ 120) (h : fgZ d k ≠ -1) : inP d k ↔ 0 < fgZ d k ∧ hbZ d (fgZ d k) - 1 < n - 1 := by
  obtain ⟨h1, h2, h3, h4, h5⟩ := fg_spec h
  have g := (sg_iff hd hn).mp h3
  have l := hbZ_le hd hn (n - fgZ d k).toNat (fgZ d k) (Nat.le_refl _) (by omega)
  unfold inP
  constructor
  · rintro ⟨q, r⟩
    have q1 := (kindZ_in hd hn q).1
    have r1 := (kindZ_in hd hn r).1
    omega
  · rintro ⟨q, r⟩
    refine ⟨?_, l.2 (by omega) (by omega)⟩
    rcases g.2.2 with e | e
    · omega
    · exact e
/-- a gap's first hour, and the first one behind it -/
theorem gp_b {d : GD} {n k : Int} (hd : gaugeOk d n) (hn : n ≤ 120) (h : fgZ d k ≠ -1) : 0 ≤ fgZ d k ∧ fgZ d k < n ∧ igP d (fgZ d k) ∧ fgZ d k < hbZ d (fgZ d k) ∧ hbZ d (fgZ d k) ≤ n := by
  obtain ⟨h1, h2, h3, h4, h5⟩ := fg_spec h
  have g := (sg_iff hd hn).mp h3
  have l := (hbZ_le hd hn (n - fgZ d k).toNat (fgZ d k) (Nat.le_refl _) (by omega)).1
  have e := hbZ_t h2 h3.1
  have b := hbZ_b d (h := fgZ d k + 1) (by omega)
  refine ⟨h1, g.1.2, h3.1, ?_, l⟩
  rw [e]
  omega
theorem sumZ_add {f : Int → Int} {a : Int} {m n : Nat} : sumZ f a (m + n) = sumZ f a m + sumZ f (a + m) n := by
  induction n with
  | zero => show _ = _ + 0; rw [Int.add_zero]; rfl
  | succ n ih =>
    show sumZ f a (m + n) + f (a + ((m + n : Nat) : Int)) = sumZ f a m + (sumZ f (a + m) n + f (a + m + n))
    rw [ih, show a + ((m + n : Nat) : Int) = a + m + n by omega]
    omega
theorem sumZ_zero {f : Int → Int} {a : Int} {n : Nat} (h : ∀ i : Int, a ≤ i → i < a + n → f i = 0) : sumZ f a n = 0 := by
  induction n with
  | zero => rfl
  | succ n ih =>
    show sumZ f a n + f (a + n) = 0
    rw [ih (fun i x y => h i x (by omega)), h _ (by omega) (by omega)]
    rfl
