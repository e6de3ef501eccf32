/-! more acts on the relation -/
theorem setGF_ok {σ : FD} {t : Int} {d : GD} (h : stOk σ.1) (hd : gaugeOk d σ.1.1.toInt) : stOk (setGF σ t d) := ⟨h.1, h.2.1, va_up_gauge h.2.2 hd t.toNat⟩
theorem on_ok {d : GD} {n : Int} {x : Int32} (h : gaugeOk d n) (hx : x.toInt = 0 ∨ x.toInt = 1) : gaugeOk (upd d.1 8 x, d.2) n := by
  obtain ⟨h1, ⟨h2, h3, h4⟩, ⟨h6, h7⟩, h8⟩ := h
  exact ⟨h1, ⟨h2, h3, h4⟩, ⟨h6, hx⟩, h8⟩
theorem Rs.setv {τ : SD} {s : Nat → Int32} {t k : Int} {v v' : Int32} (h : Rs τ s) (hok : stOk τ) (ht : 0 ≤ t ∧ t < 3) (hk : 0 ≤ k ∧ k ≤ 8 ∧ k ≠ 7) (e : v = v') : Rs (τ.1, τ.2.1, va_up τ.2.2 t.toNat (upd (τ.2.2 t.toNat).1 k.toNat v', (τ.2.2 t.toNat).2)) (upd s (10 + 731 * t + k).toNat v) := by
  subst e
  exact h.set hok ht hk
theorem Rs.wv {τ : SD} {s : Nat → Int32} {w : Int} {x y z : Int32} (h : Rs τ s) (hok : stOk τ) (hw : 0 ≤ w ∧ w < 3) : Rs (τ.1, va_up τ.2.1 w.toNat (upd (upd (upd (τ.2.1 w.toNat) 0 x) 1 y) 2 z), τ.2.2) (upd (upd (upd s (1 + 3 * w).toNat x) (1 + 3 * w + 1).toNat y) (1 + 3 * w + 2).toNat z) := by
  have far : ∀ k : Nat, (∀ j : Int, 0 ≤ j → j < 3 → k ≠ (1 + 3 * w + j).toNat) → (upd (upd (upd s (1 + 3 * w).toNat x) (1 + 3 * w + 1).toNat y) (1 + 3 * w + 2).toNat z) k = s k := by
    intro k hk
    have h0 := hk 0 (by omega) (by omega)
    have h1 := hk 1 (by omega) (by omega)
    have h2 := hk 2 (by omega) (by omega)
    rw [upd_ne h2, upd_ne h1, upd_ne (by omega)]
  refine ⟨?_, fun i a b => ?_, fun t a b => ?_⟩
  · rw [far _ (fun j a b => by omega)]
    exact h.1
  · by_cases e : i = w
    · subst e
      show _ = (va_up τ.2.1 i.toNat _ i.toNat 0).toInt ∧ _ = (va_up τ.2.1 i.toNat _ i.toNat 1).toInt ∧ _ = (va_up τ.2.1 i.toNat _ i.toNat 2).toInt
      rw [va_up_self]
      refine ⟨?_, ?_, ?_⟩
      · rw [upd_ne (by omega), upd_ne (by omega), upd_at]
        rfl
      · rw [upd_ne (by omega), upd_at]
        rfl
      · rw [upd_at]
        rfl
    · show _ = (va_up τ.2.1 w.toNat _ i.toNat 0).toInt ∧ _ = (va_up τ.2.1 w.toNat _ i.toNat 1).toInt ∧ _ = (va_up τ.2.1 w.toNat _ i.toNat 2).toInt
      rw [va_up_ne _ _ (show i.toNat ≠ w.toNat by omega), far _ (fun j a b => by omega), far _ (fun j a b => by omega), far _ (fun j a b => by omega)]
      exact h.2.1 i a b
  · refine (h.2.2 t a b).congr (fun w' p q => ?_) (hok.L (by omega))
    show (_ : Int32).toInt = (s _).toInt
    rw [far _ (fun j a b => by omega)]
theorem newG_gok {σ : FD} {t : Int} {x y z : Int32} {n : Int} (h : gaugeOk (σ.1.2.2 t.toNat) n) (hs : staOk (newG σ t x y z)) : gaugeOk (newG σ t x y z) n := ⟨hs, h.2⟩
theorem Rs.set3 {σ : FD} {s : Nat → Int32} {t : Int} {x y z : Int32} (h : Rs σ.1 s) (hok : stOk σ.1) (ht : 0 ≤ t ∧ t < 3) : Rs (setGF σ t (newG σ t x y z)) (upd (upd (upd s (10 + 731 * t + 0).toNat x) (10 + 731 * t + 1).toNat y) (10 + 731 * t + 2).toNat z) := by
  have hL := hok.L (i := t.toNat) (by omega)
  refine h.gset hok ht (((sameBut.rf.up ht (by omega)).up ht (by omega)).up ht (by omega)) ?_
  have g1 := (h.g ht).set (c' := fun w => cR (upd s (10 + 731 * t + 0).toNat x) t w) (k := 0) (v := x) (by omega) cR_at (fun w a b e => cR_ne ht ht (by omega) ⟨a, b⟩ (Or.inr e)) hL
  have g2 := g1.set (c' := fun w => cR (upd (upd s (10 + 731 * t + 0).toNat x) (10 + 731 * t + 1).toNat y) t w) (k := 1) (v := y) (by omega) cR_at (fun w a b e => cR_ne ht ht (by omega) ⟨a, b⟩ (Or.inr e)) hL
  exact g2.set (k := 2) (v := z) (by omega) cR_at (fun w a b e => cR_ne ht ht (by omega) ⟨a, b⟩ (Or.inr e)) hL
theorem Rs.sta {σ : FD} {s : Nat → Int32} {t : Int} {x y z v : Int32} (h : Rs σ.1 s) (hok : stOk σ.1) (ht : 0 ≤ t ∧ t < 3) (hs : staOk (newG σ t x y z)) (hv : v.toInt = watZ σ.1.2.1 (newG σ t x y z) 0) : Rs (setGF σ t (sfG σ.1.2.1 (newG σ t x y z))) (upd (upd (upd (upd s (10 + 731 * t + 0).toNat x) (10 + 731 * t + 1).toNat y) (10 + 731 * t + 2).toNat z) (10 + 731 * t + 3).toNat v) := by
  have g := (h.set3 (x := x) (y := y) (z := z) hok ht).set (k := 3) (v := v) (setGF_ok hok (newG_gok (hok.2.2 t.toNat (by omega)) hs)) ht (by omega)
  refine g.to ?_
  show (σ.1.1, σ.1.2.1, va_up (va_up σ.1.2.2 t.toNat (newG σ t x y z)) t.toNat (upd (va_up σ.1.2.2 t.toNat (newG σ t x y z) t.toNat).1 3 v, (va_up σ.1.2.2 t.toNat (newG σ t x y z) t.toNat).2)) = _
  rw [va_up_self, bx_uu, zi_eqOf hv]
  rfl
theorem cp0_s {b s : Nat → Int32} {i : Int} (h : 0 ≤ i) : upd (cpB b s 0 i) i.toNat (s i.toNat) = cpB b s 0 (i + 1) := by
  have e := cpB_s (b := b) (s := s) (m := 0) (i := i) (by omega) h
  rw [Int.zero_add] at e
  exact e
theorem cp_full {b s : Nat → Int32} {k : Nat} (h : k < 2203) : cpB b s 0 2203 k = s k := by
  unfold cpB
  rw [if_pos (by omega)]
  exact congrArg s (by omega)
theorem Rs.cp {τ : SD} {s b : Nat → Int32} (h : Rs τ s) (hok : stOk τ) : Rs τ (cpB b s 0 2203) := h.congr hok (fun _ hk => cp_full hk)
theorem cpU_s {b s : Nat → Int32} {m i : Int} (h : 0 ≤ i) (hm : 0 ≤ m) : upd (cpB s (fun k => b (2203 * m.toNat + k)) 0 i) i.toNat (b (2203 * m + i).toNat) = cpB s (fun k => b (2203 * m.toNat + k)) 0 (i + 1) := by
  rw [show (2203 * m + i).toNat = 2203 * m.toNat + i.toNat by omega]
  exact cp0_s (s := fun k => b (2203 * m.toNat + k)) h
theorem Rel.kp {σ : FD} {μ : MD} {K : Nat → Int32} (h : Rel σ μ) (hK : Rs σ.1 K) : Rel (s_keep σ) (upd μ.1 4 1, μ.2.1, μ.2.2.1, K, μ.2.2.2.2) := by
  obtain ⟨g1, g2, g3, g4, g5⟩ := h
  refine ⟨g1, ?_, ?_, ?_, g5⟩
  · show (upd μ.1 4 1 2).toInt = _ ∧ _
    rw [upd_ne (by omega)]
    exact g2
  · show (upd μ.1 4 1 4).toInt = _ ∧ _
    rw [upd_at]
    exact ⟨rfl, fun _ => hK⟩
  · show (upd μ.1 4 1 6).toInt = _
    rw [upd_ne (by omega)]
    exact g4
theorem Rel.un {σ : FD} {μ : MD} {z : Int32} {S : Nat → Int32} (h : Rel σ μ) (hok : fdOk σ) (hk : (μ.1 2).toInt ≠ 0) (hz : z.toInt = (μ.1 2).toInt - 1) (hS : ∀ τ, stOk τ → Rs τ (fun k => μ.2.2.1 (2203 * ((μ.1 2).toInt - 1).toNat + k)) → Rs τ S) : Rel (unF σ) (upd μ.1 2 z, S, μ.2.2) := by
  obtain ⟨g1, ⟨g2, g2'⟩, g3, g4, g5⟩ := h
  have hb := hok.2.2.2.2.1
  have hp := hok.2.2.2.1 (σ.2.2.2.2.2.1.toInt - 1).toNat (by omega)
  refine ⟨?_, ⟨?_, fun i hi => ?_⟩, ?_, ?_, g5⟩
  · refine hS _ hp ?_
    rw [g2]
    exact g2' (σ.2.2.2.2.2.1.toInt - 1).toNat (by omega)
  · show (upd μ.1 2 z 2).toInt = (Int32.ofInt (σ.2.2.2.2.2.1.toInt - 1)).toInt
    rw [upd_at, zi_ofI (by omega)]
    omega
  · have hi2 : (i : Int) < (Int32.ofInt (σ.2.2.2.2.2.1.toInt - 1)).toInt := hi
    rw [zi_ofI (by omega)] at hi2
    exact g2' i (by omega)
  · show (upd μ.1 2 z 4).toInt = _ ∧ _
    rw [upd_ne (by omega)]
    exact g3
  · show (upd μ.1 2 z 6).toInt = _
    rw [upd_ne (by omega)]
    exact g4
