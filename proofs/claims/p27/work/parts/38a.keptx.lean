/-! what holds besides of every state that the law makes: corrections are at most what has sunk, mended values are small -/
def gX (d : GD) : Prop := (∀ j, (d.2.2.2 j).toInt ≤ (d.1 7).toInt) ∧ ∀ j, (d.2.1 j).toInt = 2 → -90000 ≤ (d.2.2.1 j).toInt ∧ (d.2.2.1 j).toInt ≤ 90000
def stX (τ : SD) : Prop := ∀ i, i < 3 → gX (τ.2.2 i)
def fdX (σ : FD) : Prop := fdOk σ ∧ stX σ.1
theorem gX_of {d d' : GD} (h : gX d) (e7 : d'.1 7 = d.1 7) (e2 : d'.2 = d.2) : gX d' := by
  unfold gX
  rw [e7, e2]
  exact h
theorem stX_set {σ : FD} {t : Int} {d : GD} (h : stX σ.1) (hd : gX d) : stX (setGF σ t d) := by
  intro i hi
  show gX (va_up σ.1.2.2 t.toNat d i)
  by_cases e : i = t.toNat
  · rw [e, va_up_self]
    exact hd
  · rw [va_up_ne _ _ e]
    exact h i hi
theorem stX_settle {τ : SD} (h : stX τ) : stX (settle τ) := by
  intro i hi
  show gX (sfN τ 3 i)
  unfold sfN
  rw [if_pos (by omega)]
  exact gX_of (h i hi) rfl rfl
theorem gX_ph {d : GD} {n w : Int} (hd : gaugeOk d n) (hn : 0 ≤ n ∧ n < 120) (h : gX d) : gX (phG d n w) := by
  have h7 := hd.2.2.1.1
  have h10 := hd.2.2.2.1.2.1
  have f3 := sunkN_b (d := d) (h := n)
  have e7 : ((phG d n w).1 7).toInt = sunkN d n := zi_ofI (by omega)
  refine ⟨fun j => ?_, fun j hj => ?_⟩
  · show (upd d.2.2.2 n.toNat (d.1 10) j).toInt ≤ ((phG d n w).1 7).toInt
    rw [e7]
    by_cases e : j = n.toNat
    · rw [e, upd_at]
      omega
    · rw [upd_ne e]
      have := h.1 j
      omega
  · have hj2 : (upd d.2.1 n.toNat (if (d.1 8).toInt = 0 then 1 else 0) j).toInt = 2 := hj
    show -90000 ≤ (upd d.2.2.1 n.toNat _ j).toInt ∧ (upd d.2.2.1 n.toNat _ j).toInt ≤ 90000
    by_cases e : j = n.toNat
    · rw [e, upd_at] at hj2
      split at hj2
      · exact absurd hj2 (by decide)
      · exact absurd hj2 (by decide)
    · rw [upd_ne e] at hj2 ⊢
      exact h.2 j hj2
theorem stX_p1 {τ : SD} (h : stOk τ) (hn : τ.1.toInt < 120) (hx : stX τ) : stX (pH1 τ) := by
  intro i hi
  show gX (gpN τ 3 i)
  unfold gpN
  rw [if_pos (by omega)]
  exact gX_ph (h.2.2 i hi) ⟨h.1.1, hn⟩ (hx i hi)
theorem stX_pass {τ : SD} (h : stOk τ) (hx : stX τ) (n : Nat) (hn : τ.1.toInt + n ≤ 120) : stX (passN τ n) := by
  induction n with
  | zero => exact hx
  | succ n ih =>
    obtain ⟨g1, g2⟩ := passN_ok h n (by omega)
    exact stX_p1 g1 (by omega) (ih (by omega))
theorem gX_nt {d : GD} {n : Int} {x : Int32} (hd : gaugeOk d n) (hn : n ≤ 120) (h : gX d) : gX (ntG d x) := by
  have h7 := hd.2.2.1.1
  have h10 := hd.2.2.2.1.2.1
  unfold ntG
  split
  · exact h
  · refine ⟨fun j => ?_, h.2⟩
    show (ntC d x.toInt x.toInt j).toInt ≤ (d.1 7).toInt
    unfold ntC
    split
    · rename_i hj
      have hb := shZ_in (w := (d.1 7).toInt - (d.1 10).toInt) (h := (j : Int) - (d.1 11).toInt) (a := x.toInt - (d.1 11).toInt) (by omega) (by omega)
      rw [zi_ofI (by omega)]
      omega
    · exact h.1 j
theorem mdZ_b {d o : GD} {a b f n j : Int} (hn : n ≤ 120) (hd : gaugeOk d n) (ho : gaugeOk o n) (ha : kindZ d a = 0) (hb : kindZ d b = 0) (hr : rdP o (a + f) (b + f)) (hj : a < j ∧ j < b) : (-40640 ≤ mdE d o a f ∧ mdE d o a f ≤ 40640) ∧ (-40640 ≤ mdE d o b f ∧ mdE d o b f ≤ 40640) ∧ -61000 ≤ mdZ d o a b f j ∧ mdZ d o a b f j ≤ 61000 := by
  have c1 := cordZ_read hd hn ha
  have c2 := cordZ_read hd hn hb
  have c3 := cordZ_read ho hn (hr (a + f) (by omega) (by omega))
  have c4 := cordZ_read ho hn (hr (b + f) (by omega) (by omega))
  have c5 := cordZ_read ho hn (hr (j + f) (by omega) (by omega))
  have e1 : -40640 ≤ mdE d o a f ∧ mdE d o a f ≤ 40640 := by unfold mdE; omega
  have e2 : -40640 ≤ mdE d o b f ∧ mdE d o b f ≤ 40640 := by unfold mdE; omega
  refine ⟨e1, e2, ?_⟩
  unfold mdZ
  by_cases s : 0 ≤ mdE d o b f - mdE d o a f
  · have := shZ_in s (h := j - a) (a := b - a) (by omega)
    omega
  · have := shZ_neg (w := mdE d o b f - mdE d o a f) (by omega) (h := j - a) (a := b - a) (by omega)
    omega
theorem gX_md {d o : GD} {a b f n : Int} (hn : n ≤ 120) (hd : gaugeOk d n) (ho : gaugeOk o n) (ha : kindZ d a = 0) (hb : kindZ d b = 0) (hr : rdP o (a + f) (b + f)) (h : gX d) : gX (mdG d o a b f) := by
  refine ⟨h.1, fun j hj => ?_⟩
  have hj2 : (mdK d a b j).toInt = 2 := hj
  show -90000 ≤ (mdV d o a b f b j).toInt ∧ (mdV d o a b f b j).toInt ≤ 90000
  unfold mdK at hj2
  unfold mdV
  split
  · rename_i c
    have := (mdZ_b hn hd ho ha hb hr c).2.2
    rw [zi_ofI (by omega)]
    omega
  · rename_i c
    rw [if_neg c] at hj2
    exact h.2 j hj2
theorem fdX_act {σ : FD} {τ : SD} (h : fdX σ) (hτ : stOk τ) (hx : stX τ) : fdX (actF σ τ) := ⟨actF_ok h.1 hτ, hx⟩
theorem kx_setWave {σ : FD} {w a b f : Int} {xa xb xf : Int32} (h : fdX σ) (ea : xa.toInt = a) (eb : xb.toInt = b) (ef : xf.toInt = f) : fdX (s_setWave σ w a b f xa xb xf) := by
  refine ⟨k_setWave h.1 ea eb ef, ?_⟩
  unfold s_setWave
  split
  · exact stX_settle (τ := (σ.1.1, newW σ w xa xb xf, σ.1.2.2)) h.2
  · exact h.2
theorem kx_setStation {σ : FD} {t a b f : Int} {xa xb xf : Int32} (h : fdX σ) (ea : xa.toInt = a) (eb : xb.toInt = b) (ef : xf.toInt = f) : fdX (s_setStation σ t a b f xa xb xf) := by
  refine ⟨k_setStation h.1 ea eb ef, ?_⟩
  unfold s_setStation
  split
  · rename_i c
    exact stX_set h.2 (gX_of (h.2 t.toNat (by omega)) rfl rfl)
  · exact h.2
theorem kx_setRate {σ : FD} {t b v : Int} {x : Int32} (h : fdX σ) (ex : x.toInt = v) : fdX (s_setRate σ t b v x) := by
  refine ⟨k_setRate h.1 ex, ?_⟩
  by_cases c : (0 ≤ t ∧ t < 3) ∧ (0 ≤ v ∧ v ≤ 20) ∧ ¬ (if b = 0 then ((σ.1.2.2 t.toNat).1 5).toInt else ((σ.1.2.2 t.toNat).1 6).toInt) = v
  · unfold s_setRate
    rw [if_pos c]
    refine stX_set h.2 ?_
    split
    · exact gX_of (h.2 t.toNat (by omega)) rfl rfl
    · exact gX_of (h.2 t.toNat (by omega)) rfl rfl
  · unfold s_setRate
    rw [if_neg c]
    exact h.2
theorem kx_turn {σ : FD} {t b : Int} {x : Int32} (h : fdX σ) (ex : x.toInt = b) (hb : b = 0 ∨ b = 1) : fdX (s_turn σ t b x) := by
  refine ⟨k_turn h.1 ex hb, ?_⟩
  unfold s_turn
  split
  · rename_i c
    exact stX_set h.2 (gX_of (h.2 t.toNat (by omega)) rfl rfl)
  · exact h.2
theorem kx_clean {σ : FD} {t : Int} (h : fdX σ) : fdX (s_clean σ t) := by
  refine ⟨k_clean h.1, ?_⟩
  unfold s_clean
  split
  · rename_i c
    exact stX_set h.2 (gX_of (h.2 t.toNat (by omega)) rfl rfl)
  · exact h.2
theorem kx_level {σ : FD} {t : Int} (h : fdX σ) : fdX (s_level σ t) := by
  refine ⟨k_level h.1, ?_⟩
  unfold s_level
  split
  · rename_i c
    exact stX_set h.2 (gX_nt (h.1.1.2.2 t.toNat (by omega)) h.1.1.1.2 (h.2 t.toNat (by omega)))
  · exact h.2
theorem kx_pass {σ : FD} {n : Int} (h : fdX σ) : fdX (s_pass σ n) := by
  refine ⟨k_pass h.1, ?_⟩
  unfold s_pass
  split
  · exact stX_pass h.1.1 h.2 n.toNat (by omega)
  · exact h.2
theorem kx_mend {σ : FD} {t k o f : Int} (h : fdX σ) : fdX (s_mend σ t k o f) := by
  refine ⟨k_mend h.1, ?_⟩
  by_cases c : ckZ σ t k o f = 0 ∧ rdP (σ.1.2.2 o.toNat) (ahZ (σ.1.2.2 t.toNat) k + f) (bhZ (σ.1.2.2 t.toNat) k + f)
  · unfold s_mend
    rw [itC_t c]
    obtain ⟨c1, c2⟩ := c
    obtain ⟨p1, p2, p3, p4, p5, p6⟩ := ckZ_0 c1
    exact stX_set h.2 (gX_md h.1.1.1.2 (h.1.1.2.2 t.toNat (by omega)) (h.1.1.2.2 o.toNat (by omega)) p6.1 p6.2 c2 (h.2 t.toNat (by omega)))
  · unfold s_mend
    rw [itC_f c]
    exact h.2
theorem fd0_X (z : Nat) : fdX (fd0 z) := by
  refine ⟨fd0_ok z, ?_⟩
  refine stX_settle (τ := st0) ?_
  intro i hi
  exact ⟨fun j => (show (0 : Int32).toInt ≤ (0 : Int32).toInt from Int.le_refl _), fun j hj => absurd (show (3 : Int32).toInt = 2 from hj) (by decide)⟩
/-! no act answers less than -5 -/
theorem onN_b (g : Nat → GD) (n : Nat) : 0 ≤ onN g n := by
  induction n with
  | zero => exact Int.le_refl _
  | succ n ih =>
    show 0 ≤ onN g n + _
    split <;> omega
theorem al_turn {σ : FD} {t b : Int} {x : Int32} : -5 ≤ a_turn σ t b x := by
  unfold a_turn
  have := onN_b (va_up σ.1.2.2 t.toNat (upd (σ.1.2.2 t.toNat).1 8 x, (σ.1.2.2 t.toNat).2)) 3
  split
  · omega
  · split <;> omega
theorem al_clean {σ : FD} {t : Int} (h : fdOk σ) : -5 ≤ a_clean σ t := by
  unfold a_clean
  split
  · omega
  · have := (h.1.2.2 t.toNat (by omega)).2.1.2.1
    split <;> omega
theorem al_level {σ : FD} {t : Int} (h : fdOk σ) : -5 ≤ a_level σ t := by
  unfold a_level
  split
  · omega
  · have := (h.1.2.2 t.toNat (by omega)).2.2.1.1
    split <;> omega
theorem al_setRate {σ : FD} {t b v : Int} (h : fdOk σ) : -5 ≤ a_setRate σ t b v := by
  unfold a_setRate
  split
  · omega
  · have h5 := (h.1.2.2 t.toNat (by omega)).2.1.2.2
    split
    · omega
    · split
      · omega
      · split <;> omega
theorem al_pass {σ : FD} {v : Int} (h : fdOk σ) : -5 ≤ a_pass σ v := by
  unfold a_pass
  have := h.1.1
  split
  · omega
  · split <;> omega
