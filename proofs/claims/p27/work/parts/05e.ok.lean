/-! what holds of every state that comes about; the words of a State's answers and steps -/
def rowsOk (d : GD) (n : Int) : Prop := (∀ j, -1000000 ≤ (d.2.2.1 j).toInt ∧ (d.2.2.1 j).toInt ≤ 1000000) ∧ (∀ j, 0 ≤ (d.2.2.2 j).toInt ∧ (d.2.2.2 j).toInt ≤ 120) ∧ (∀ j : Nat, (j : Int) < n → (d.2.1 j).toInt = 0 ∨ (d.2.1 j).toInt = 1 ∨ (d.2.1 j).toInt = 2) ∧ (∀ j : Nat, n ≤ (j : Int) → (d.2.1 j).toInt = 3) ∧ ∀ j, (d.2.1 j).toInt = 0 → -20200 ≤ (d.2.2.1 j).toInt ∧ (d.2.2.1 j).toInt ≤ 20200
def gaugeOk (d : GD) (n : Int) : Prop :=
  ((0 ≤ (d.1 0).toInt ∧ (d.1 0).toInt ≤ 12) ∧ (10 ≤ (d.1 1).toInt ∧ (d.1 1).toInt ≤ 200) ∧ (-2000 ≤ (d.1 2).toInt ∧ (d.1 2).toInt ≤ 2000)) ∧
  ((-20000 ≤ (d.1 3).toInt ∧ (d.1 3).toInt ≤ 20000) ∧ (0 ≤ (d.1 4).toInt ∧ (d.1 4).toInt ≤ 90) ∧ (0 ≤ (d.1 5).toInt ∧ (d.1 5).toInt ≤ 20) ∧ (0 ≤ (d.1 6).toInt ∧ (d.1 6).toInt ≤ 20)) ∧
  ((0 ≤ (d.1 7).toInt ∧ (d.1 7).toInt ≤ n) ∧ ((d.1 8).toInt = 0 ∨ (d.1 8).toInt = 1)) ∧
  ((1 ≤ (d.1 9).toInt ∧ (d.1 9).toInt ≤ (d.1 11).toInt + 1) ∧ (0 ≤ (d.1 10).toInt ∧ (d.1 10).toInt ≤ (d.1 7).toInt) ∧ (0 ≤ (d.1 11).toInt ∧ (d.1 11).toInt ≤ n)) ∧
  rowsOk d n
/-- a station's numbers -/
def staOk (d : GD) : Prop := (0 ≤ (d.1 0).toInt ∧ (d.1 0).toInt ≤ 12) ∧ (10 ≤ (d.1 1).toInt ∧ (d.1 1).toInt ≤ 200) ∧ (-2000 ≤ (d.1 2).toInt ∧ (d.1 2).toInt ≤ 2000)
theorem gaugeOk.sta {d : GD} {n : Int} (h : gaugeOk d n) : staOk d := h.1
theorem gaugeOk.small {d : GD} {n : Int} (h : gaugeOk d n) : smallG d := ⟨h.2.2.2.2.1, fun j => by have := h.2.2.2.2.2.1 j; omega⟩
theorem gaugeOk.onB {d : GD} {n : Int} (h : gaugeOk d n) : isB (d.1 8) ((d.1 8).toInt = 1) := by
  rcases h.2.2.1.2 with q | q
  · exact Or.inr ⟨q, by omega⟩
  · exact Or.inl ⟨q, q⟩
def stOk (σ : SD) : Prop := (0 ≤ σ.1.toInt ∧ σ.1.toInt ≤ 120) ∧ (∀ i, i < 3 → waveOk (σ.2.1 i)) ∧ ∀ i, i < 3 → gaugeOk (σ.2.2 i) σ.1.toInt
/-- the sea: the first n waves -/
def seaN (W : Nat → Nat → Int32) (h : Int) : Nat → Int | 0 => 0 | n + 1 => seaN W h n + waveZ (W n) h
def seaZ (W : Nat → Nat → Int32) (h : Int) : Int := seaN W h 3
theorem seaN_s {W : Nat → Nat → Int32} {h i : Int} (hi : 0 ≤ i) : seaN W h (i + 1).toNat = seaN W h i.toNat + waveZ (W i.toNat) h := by
  have e : (i + 1).toNat = i.toNat + 1 := by omega
  rw [e]
  rfl
theorem seaN_b {W : Nat → Nat → Int32} (hw : ∀ i, i < 3 → waveOk (W i)) (h : Int) (n : Nat) (hn : n ≤ 3) : -(3000 * n) ≤ seaN W h n ∧ seaN W h n ≤ 3000 * n := by
  induction n with
  | zero => exact ⟨by simp [seaN], by simp [seaN]⟩
  | succ n ih =>
    have h1 := ih (by omega)
    have h2 := waveZ_b (hw n (by omega)) h
    show -(3000 * ((n + 1 : Nat) : Int)) ≤ seaN W h n + _ ∧ seaN W h n + _ ≤ 3000 * ((n + 1 : Nat) : Int)
    omega
theorem seaZ_b {W : Nat → Nat → Int32} (hw : ∀ i, i < 3 → waveOk (W i)) (h : Int) : -9000 ≤ seaZ W h ∧ seaZ W h ≤ 9000 := by
  have := seaN_b hw h 3 (by omega)
  unfold seaZ
  omega
/-- the water outside of a gauge -/
def watZ (W : Nat → Nat → Int32) (d : GD) (h : Int) : Int := (d.1 1).toInt * seaZ W (h - (d.1 0).toInt) / 100 + (d.1 2).toInt
theorem watZ_p {W : Nat → Nat → Int32} {d : GD} (hw : ∀ i, i < 3 → waveOk (W i)) (hd : staOk d) (h : Int) : -1800000 ≤ (d.1 1).toInt * seaZ W h ∧ (d.1 1).toInt * seaZ W h ≤ 1800000 := by
  have h1 := seaZ_b hw h
  have h2 := hd.2.1
  have := mul_b (a := (d.1 1).toInt) (b := seaZ W h) (A := 200) (B := 9000) (by omega) (by omega)
  omega
theorem watZ_b {W : Nat → Nat → Int32} {d : GD} (hw : ∀ i, i < 3 → waveOk (W i)) (hd : staOk d) (h : Int) : -20000 ≤ watZ W d h ∧ watZ W d h ≤ 20000 := by
  have h1 := watZ_p hw hd (h - (d.1 0).toInt)
  have h2 := hd.2.2
  unfold watZ
  omega
theorem flN_b {d : GD} {w L : Int} (hs : 0 ≤ (d.1 4).toInt ∧ (d.1 4).toInt ≤ 90) (h1 : -L ≤ (d.1 3).toInt ∧ (d.1 3).toInt ≤ L) (h2 : -L ≤ w ∧ w ≤ L) : -L ≤ flN d w ∧ flN d w ≤ L := by
  unfold flN
  generalize (d.1 3).toInt = f at h1
  generalize hx : w - f = x
  rcases Int.le_total 0 x with q | q
  · have a1 := Int.mul_nonneg q (show 0 ≤ 100 - (d.1 4).toInt by omega)
    have a2 : x * (100 - (d.1 4).toInt) ≤ x * 100 := Int.mul_le_mul_of_nonneg_left (by omega) q
    omega
  · have a1 := Int.mul_nonneg (show 0 ≤ -x by omega) (show 0 ≤ 100 - (d.1 4).toInt by omega)
    have a2 := Int.mul_le_mul_of_nonneg_left (show 100 - (d.1 4).toInt ≤ 100 by omega) (show 0 ≤ -x by omega)
    rw [Int.neg_mul] at a1 a2
    omega
/-- an hour that passes: the first i gauges have gone by it -/
def gpN (σ : SD) (i : Int) : Nat → GD := fun j => if (j : Int) < i then phG (σ.2.2 j) σ.1.toInt (watZ σ.2.1 (σ.2.2 j) σ.1.toInt) else σ.2.2 j
def pH1 (σ : SD) : SD := (Int32.ofInt (σ.1.toInt + 1), σ.2.1, gpN σ 3)
def passN (σ : SD) : Nat → SD | 0 => σ | n + 1 => pH1 (passN σ n)
theorem va_upG {f g : Nat → GD} (i : Nat) {d : GD} (h : ∀ j, j ≠ i → f j = g j) (hd : d = g i) : va_up f i d = g := by
  funext j
  by_cases e : j = i
  · subst e
    rw [va_up_self, hd]
  · rw [va_up_ne _ _ e, h j e]
theorem gpN_s {σ : SD} {i : Int} (h0 : 0 ≤ i) : va_up (gpN σ i) i.toNat (phG (σ.2.2 i.toNat) σ.1.toInt (watZ σ.2.1 (σ.2.2 i.toNat) σ.1.toInt)) = gpN σ (i + 1) := by
  refine va_upG _ (fun j hj => ?_) ?_
  · unfold gpN
    by_cases e : (j : Int) < i
    · rw [if_pos e, if_pos (by omega)]
    · rw [if_neg e, if_neg (by omega)]
  · unfold gpN
    rw [if_pos (by omega)]
theorem gpN_at {σ : SD} {i : Int} (h0 : 0 ≤ i) : gpN σ i i.toNat = σ.2.2 i.toNat := by
  unfold gpN
  rw [if_neg (by omega)]
theorem gpN_0 {σ : SD} {i : Int} (h0 : i ≤ 0) : gpN σ i = σ.2.2 := by
  funext j
  unfold gpN
  rw [if_neg (by omega)]
theorem passN_s {σ : SD} {i : Int} (h : 0 ≤ i) : passN σ (i + 1).toNat = pH1 (passN σ i.toNat) := by
  have e : (i + 1).toNat = i.toNat + 1 := by omega
  rw [e]
  rfl
theorem siltN_b {d : GD} {h : Int} (hs : 0 ≤ (d.1 4).toInt ∧ (d.1 4).toInt ≤ 90) : 0 ≤ siltN d h ∧ siltN d h ≤ 90 := by
  unfold siltN
  split <;> omega
theorem sunkN_b {d : GD} {h : Int} : (d.1 7).toInt ≤ sunkN d h ∧ sunkN d h ≤ (d.1 7).toInt + 1 := by
  unfold sunkN
  split <;> omega
theorem upd_ne {f : Nat → Int32} {k j : Nat} {x : Int32} (h : j ≠ k) : upd f k x j = f j := by simp [upd, h]
theorem phG_ok {d : GD} {n w : Int} (hd : gaugeOk d n) (hn : 0 ≤ n ∧ n < 120) (hw : -20000 ≤ w ∧ w ≤ 20000) : gaugeOk (phG d n w) (n + 1) := by
  obtain ⟨h1, ⟨h2, h3, h4, h5⟩, ⟨h6, h7⟩, ⟨h8, h9, h10⟩, h11, h12, h13, h14, h15⟩ := hd
  have f1 := flN_b (d := d) (w := w) (L := 20000) h3 (by omega) (by omega)
  have f2 := siltN_b (d := d) (h := n) h3
  have f3 := sunkN_b (d := d) (h := n)
  have e3 : ((phG d n w).1 3).toInt = flN d w := zi_ofI (by omega)
  have e4 : ((phG d n w).1 4).toInt = siltN d n := zi_ofI (by omega)
  have e7 : ((phG d n w).1 7).toInt = sunkN d n := zi_ofI (by omega)
  have ev : (Int32.ofInt (flN d w + (d.1 7).toInt)).toInt = flN d w + (d.1 7).toInt := zi_ofI (by omega)
  refine ⟨h1, ⟨by rw [e3]; exact f1, by rw [e4]; exact f2, h4, h5⟩, ⟨by rw [e7]; omega, h7⟩, ⟨h8, ⟨h9.1, by show (d.1 10).toInt ≤ ((phG d n w).1 7).toInt; rw [e7]; omega⟩, ⟨h10.1, by show (d.1 11).toInt ≤ n + 1; omega⟩⟩, ?_, ?_, ?_, ?_, ?_⟩
  · intro j
    by_cases e : j = n.toNat
    · subst e
      show -1000000 ≤ (upd d.2.2.1 n.toNat _ n.toNat).toInt ∧ (upd d.2.2.1 n.toNat _ n.toNat).toInt ≤ 1000000
      rw [upd_at]
      split
      · exact ⟨by decide, by decide⟩
      · rw [ev]; omega
    · show -1000000 ≤ (upd d.2.2.1 n.toNat _ j).toInt ∧ (upd d.2.2.1 n.toNat _ j).toInt ≤ 1000000
      rw [upd_ne e]
      exact h11 j
  · intro j
    by_cases e : j = n.toNat
    · subst e
      show 0 ≤ (upd d.2.2.2 n.toNat _ n.toNat).toInt ∧ (upd d.2.2.2 n.toNat _ n.toNat).toInt ≤ 120
      rw [upd_at]
      omega
    · show 0 ≤ (upd d.2.2.2 n.toNat _ j).toInt ∧ (upd d.2.2.2 n.toNat _ j).toInt ≤ 120
      rw [upd_ne e]
      exact h12 j
  · intro j hj
    show (upd d.2.1 n.toNat _ j).toInt = 0 ∨ (upd d.2.1 n.toNat _ j).toInt = 1 ∨ (upd d.2.1 n.toNat _ j).toInt = 2
    by_cases e : j = n.toNat
    · subst e
      rw [upd_at]
      split
      · exact Or.inr (Or.inl (by decide))
      · exact Or.inl (by decide)
    · rw [upd_ne e]
      exact h13 j (by omega)
  · intro j hj
    show (upd d.2.1 n.toNat _ j).toInt = 3
    rw [upd_ne (by omega)]
    exact h14 j (by omega)
  · intro j hj
    have hj2 : (upd d.2.1 n.toNat (if (d.1 8).toInt = 0 then 1 else 0) j).toInt = 0 := hj
    show -20200 ≤ (upd d.2.2.1 n.toNat _ j).toInt ∧ (upd d.2.2.1 n.toNat _ j).toInt ≤ 20200
    by_cases e : j = n.toNat
    · subst e
      rw [upd_at] at hj2 ⊢
      split
      · rw [if_pos (by assumption)] at hj2
        exact absurd hj2 (by decide)
      · rw [ev]; omega
    · rw [upd_ne e] at hj2 ⊢
      exact h15 j hj2
theorem pH1_ok {σ : SD} (h : stOk σ) (hn : σ.1.toInt < 120) : stOk (pH1 σ) := by
  obtain ⟨h1, h2, h3⟩ := h
  have e : (pH1 σ).1.toInt = σ.1.toInt + 1 := zi_ofI (by omega)
  refine ⟨by rw [e]; omega, h2, fun i hi => ?_⟩
  rw [e]
  show gaugeOk (gpN σ 3 i) _
  unfold gpN
  rw [if_pos (by omega)]
  exact phG_ok (h3 i hi) (by omega) (watZ_b h2 (h3 i hi).sta _)
theorem passN_ok {σ : SD} (h : stOk σ) (n : Nat) (hn : σ.1.toInt + n ≤ 120) : stOk (passN σ n) ∧ (passN σ n).1.toInt = σ.1.toInt + n := by
  induction n with
  | zero => exact ⟨h, by show σ.1.toInt = σ.1.toInt + 0; omega⟩
  | succ n ih =>
    obtain ⟨g1, g2⟩ := ih (by omega)
    have g3 := g1.1
    refine ⟨pH1_ok g1 (by omega), ?_⟩
    show (Int32.ofInt ((passN σ n).1.toInt + 1)).toInt = _
    rw [zi_ofI (by omega)]
    omega
theorem ST.ext {G : xG} {H : Heap} {t : Nat} {σ σ' : SD} (h : ST G H t σ) (h0 : σ.1 = σ'.1) (h1 : ∀ i, i < 3 → ∀ k, k < 3 → σ.2.1 i k = σ'.2.1 i k) (h2 : ∀ i, i < 3 → σ.2.2 i = σ'.2.2 i) : ST G H t σ' := by
  refine ⟨by rw [← h0]; exact h.1, h.2.1, h.2.2.1, fun i hi => ?_, fun i hi => by rw [← h2 i hi]; exact h.gauge hi⟩
  have hw := h.wave hi
  unfold WV at *
  rw [← h1 i hi 0 (by omega), ← h1 i hi 1 (by omega), ← h1 i hi 2 (by omega)]
  exact hw
/-- the float of a gauge is at the water outside -/
def sfG (W : Nat → Nat → Int32) (d : GD) : GD := (upd d.1 3 (Int32.ofInt (watZ W d 0)), d.2)
def sfN (σ : SD) (i : Int) : Nat → GD := fun j => if (j : Int) < i then sfG σ.2.1 (σ.2.2 j) else σ.2.2 j
def settle (σ : SD) : SD := (σ.1, σ.2.1, sfN σ 3)
theorem sfN_s {σ : SD} {i : Int} (h0 : 0 ≤ i) : va_up (sfN σ i) i.toNat (sfG σ.2.1 (sfN σ i i.toNat)) = sfN σ (i + 1) := by
  refine va_upG _ (fun j hj => ?_) ?_
  · unfold sfN
    by_cases e : (j : Int) < i
    · rw [if_pos e, if_pos (by omega)]
    · rw [if_neg e, if_neg (by omega)]
  · unfold sfN
    rw [if_neg (by omega), if_pos (by omega)]
theorem sfN_0 {σ : SD} {i : Int} (h0 : i ≤ 0) : sfN σ i = σ.2.2 := by
  funext j
  unfold sfN
  rw [if_neg (by omega)]
theorem sfN_sta {σ : SD} {i : Int} {j : Nat} (h : staOk (σ.2.2 j)) : staOk (sfN σ i j) := by
  unfold sfN
  split
  · exact h
  · exact h
theorem gpN_sta {σ : SD} {i : Int} {j : Nat} (h : staOk (σ.2.2 j)) : staOk (gpN σ i j) := by
  unfold gpN
  split
  · exact h
  · exact h
/-- what an order does to a gauge -/
def obG (d : GD) (hr : Int32) (k : Int) : GD := if k = 120 then (upd d.1 8 0, d.2) else if k = 111 then (upd d.1 8 1, d.2) else if k = 99 then (upd d.1 4 0, d.2) else ntG d hr
/-- what an order does -/
def obS (σ : SD) (k v : Int) : SD := if k = 112 then passN σ v.toNat else (σ.1, σ.2.1, va_up σ.2.2 v.toNat (obG (σ.2.2 v.toNat) σ.1 k))
def onN (g : Nat → GD) : Nat → Int | 0 => 0 | n + 1 => onN g n + if ((g n).1 8).toInt = 0 then 0 else 1
def hkN (g : Nat → GD) (k : Int) : Nat → Int | 0 => 0 | n + 1 => hkN g k n + cntZ (fun j => ((g n).2.1 j).toInt = k) 120
theorem onN_s {g : Nat → GD} {i : Int} (h : 0 ≤ i) : onN g (i + 1).toNat = onN g i.toNat + if ((g i.toNat).1 8).toInt = 0 then 0 else 1 := by
  have e : (i + 1).toNat = i.toNat + 1 := by omega
  rw [e]
  rfl
theorem hkN_s {g : Nat → GD} {k i : Int} (h : 0 ≤ i) : hkN g k (i + 1).toNat = hkN g k i.toNat + cntZ (fun j => ((g i.toNat).2.1 j).toInt = k) 120 := by
  have e : (i + 1).toNat = i.toNat + 1 := by omega
  rw [e]
  rfl
/-- waves and gauges while a state is copied -/
def cwG (v w : Nat → Int32) : Nat → Int32 := upd (upd (upd v 0 (w 0)) 1 (w 1)) 2 (w 2)
def cwN (σ τ : SD) (i : Int) : Nat → Nat → Int32 := fun j => if (j : Int) < i then cwG (σ.2.1 j) (τ.2.1 j) else σ.2.1 j
def cgN (σ τ : SD) (i : Int) : Nat → GD := fun j => if (j : Int) < i then τ.2.2 j else σ.2.2 j
theorem va_upF {α : Type} {f g : Nat → α} (i : Nat) {d : α} (h : ∀ j, j ≠ i → f j = g j) (hd : d = g i) : va_up f i d = g := by
  funext j
  by_cases e : j = i
  · subst e
    rw [va_up_self, hd]
  · rw [va_up_ne _ _ e, h j e]
theorem cwN_s {σ τ : SD} {i : Int} (h0 : 0 ≤ i) : va_up (cwN σ τ i) i.toNat (cwG (cwN σ τ i i.toNat) (τ.2.1 i.toNat)) = cwN σ τ (i + 1) := by
  refine va_upF _ (fun j hj => ?_) ?_
  · unfold cwN
    by_cases e : (j : Int) < i
    · rw [if_pos e, if_pos (by omega)]
    · rw [if_neg e, if_neg (by omega)]
  · unfold cwN
    rw [if_neg (by omega), if_pos (by omega)]
theorem cgN_s {σ τ : SD} {i : Int} (h0 : 0 ≤ i) : va_up (cgN σ τ i) i.toNat (τ.2.2 i.toNat) = cgN σ τ (i + 1) := by
  refine va_upF _ (fun j hj => ?_) ?_
  · unfold cgN
    by_cases e : (j : Int) < i
    · rw [if_pos e, if_pos (by omega)]
    · rw [if_neg e, if_neg (by omega)]
  · unfold cgN
    rw [if_pos (by omega)]
theorem cwN_0 {σ τ : SD} {i : Int} (h0 : i ≤ 0) : cwN σ τ i = σ.2.1 := by
  funext j
  unfold cwN
  rw [if_neg (by omega)]
theorem cgN_0 {σ τ : SD} {i : Int} (h0 : i ≤ 0) : cgN σ τ i = σ.2.2 := by
  funext j
  unfold cgN
  rw [if_neg (by omega)]
theorem cpS_end {G : xG} {H : Heap} {t : Nat} {σ τ : SD} {i : Int} (h : ST G H t (τ.1, cwN σ τ 3, cgN σ τ i)) (hi : 3 ≤ i) : ST G H t τ := by
  refine h.ext rfl (fun j hj k hk => ?_) (fun j hj => ?_)
  · show cwN σ τ 3 j k = _
    unfold cwN
    rw [if_pos (by omega)]
    rcases (show k = 0 ∨ k = 1 ∨ k = 2 by omega) with e | e | e <;> subst e <;> rfl
  · show cgN σ τ i j = _
    unfold cgN
    rw [if_pos (by omega)]
