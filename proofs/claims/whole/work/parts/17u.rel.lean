/-! the object and the model -/
def Rel (σ : FD) (μ : MD) : Prop := Rs σ.1 μ.2.1 ∧ ((μ.1 2).toInt = σ.2.2.2.2.2.1.toInt ∧ ∀ i : Nat, (i : Int) < σ.2.2.2.2.2.1.toInt → Rs (σ.2.2.2.2.1 i) (fun k => μ.2.2.1 (2203 * i + k))) ∧ ((μ.1 4).toInt = σ.2.2.1.toInt ∧ (σ.2.2.1.toInt ≠ 0 → Rs σ.2.1 μ.2.2.2.1)) ∧ ((μ.1 6).toInt = σ.2.2.2.2.2.2.1.toInt ∧ ∀ j : Nat, (j : Int) < σ.2.2.2.2.2.2.1.toInt → (μ.2.2.2.2 j).toInt = (σ.2.2.2.2.2.2.2 j).toInt)
theorem Rs.congr {τ : SD} {s s' : Nat → Int32} (h : Rs τ s) (hok : stOk τ) (hs : ∀ k : Nat, k < 2203 → s' k = s k) : Rs τ s' := by
  refine ⟨by rw [hs _ (by omega)]; exact h.1, fun i a b => ?_, fun t a b => ?_⟩
  · rw [hs _ (by omega), hs _ (by omega), hs _ (by omega)]
    exact h.2.1 i a b
  · refine (h.2.2 t a b).congr (fun w x y => ?_) (hok.L (by omega))
    show (s' _).toInt = (s _).toInt
    rw [hs _ (by omega)]
def shB (b : Nat → Int32) (i : Int) : Nat → Int32 := fun k => if (k : Int) < i then b (2203 + k) else b k
def cpB (b s : Nat → Int32) (m i : Int) : Nat → Int32 := fun k => if m ≤ (k : Int) ∧ (k : Int) < m + i then s ((k : Int) - m).toNat else b k
theorem upd_upd {f : Nat → Int32} {k : Nat} {a b : Int32} : upd (upd f k a) k b = upd f k b := by
  funext j
  by_cases e : j = k
  · subst e
    rw [upd_at, upd_at]
  · rw [upd_ne e, upd_ne e, upd_ne e]
theorem upd_f {f g : Nat → Int32} (i : Nat) {v : Int32} (h : ∀ j, j ≠ i → f j = g j) (hd : v = g i) : upd f i v = g := by
  funext j
  by_cases e : j = i
  · subst e
    rw [upd_at]
    exact hd
  · rw [upd_ne e]
    exact h j e
theorem shB_at {b : Nat → Int32} {i : Int} (h : 0 ≤ i) : shB b i (2203 + i).toNat = b (2203 + i).toNat := by
  unfold shB
  rw [if_neg (by omega)]
theorem shB_s {b : Nat → Int32} {i : Int} (h : 0 ≤ i) : upd (shB b i) i.toNat (b (2203 + i).toNat) = shB b (i + 1) := by
  refine upd_f _ (fun j e => ?_) ?_
  · unfold shB
    by_cases c : (j : Int) < i
    · rw [if_pos c, if_pos (by omega)]
    · rw [if_neg c, if_neg (by omega)]
  · unfold shB
    rw [if_pos (by omega), show 2203 + i.toNat = (2203 + i).toNat by omega]
theorem shB_0 {b : Nat → Int32} : shB b 0 = b := by
  funext k
  unfold shB
  rw [if_neg (by omega)]
theorem cpB_s {b s : Nat → Int32} {m i : Int} (hm : 0 ≤ m) (h : 0 ≤ i) : upd (cpB b s m i) (m + i).toNat (s i.toNat) = cpB b s m (i + 1) := by
  refine upd_f _ (fun j e => ?_) ?_
  · unfold cpB
    by_cases c : m ≤ (j : Int) ∧ (j : Int) < m + i
    · rw [if_pos c, if_pos (by omega)]
    · rw [if_neg c, if_neg (by omega)]
  · unfold cpB
    rw [if_pos (by omega), show (((m + i).toNat : Nat) : Int) - m = i by omega]
theorem cpB_0 {b s : Nat → Int32} {m : Int} : cpB b s m 0 = b := by
  funext k
  unfold cpB
  rw [if_neg (by omega)]
def kwS (μ : MD) : Nat → Int32 := if (μ.1 2).toInt = 4 then upd μ.1 2 (Int32.ofInt ((μ.1 2).toInt - 1 + 1)) else upd μ.1 2 (Int32.ofInt ((μ.1 2).toInt + 1))
def kwB (μ : MD) : Nat → Int32 := if (μ.1 2).toInt = 4 then cpB (shB μ.2.2.1 6609) μ.2.1 (2203 * ((μ.1 2).toInt - 1)) 2203 else cpB μ.2.2.1 μ.2.1 (2203 * (μ.1 2).toInt) 2203
theorem Rel.act {σ : FD} {μ m : MD} {τ : SD} (h : Rel σ μ) (hok : fdOk σ) (hs : Rs τ m.2.1) (h1 : m.1 = kwS μ) (h2 : m.2.2 = (kwB μ, μ.2.2.2)) : Rel (actF σ τ) m := by
  obtain ⟨g1, ⟨g2, g3⟩, ⟨g4, g5⟩, g6, g7⟩ := h
  have hk := hok.2.2.2.2.1
  have hp := hok.2.2.2.1
  have e4 : m.1 4 = μ.1 4 := by
    rw [h1]; unfold kwS
    split <;> exact upd_ne (by omega)
  have e6 : m.1 6 = μ.1 6 := by
    rw [h1]; unfold kwS
    split <;> exact upd_ne (by omega)
  refine ⟨hs, ?_, ⟨by rw [e4]; exact g4, fun q => by rw [h2]; exact g5 q⟩, by rw [e6]; exact g6, fun j q => by rw [h2]; exact g7 j q⟩
  by_cases c : (μ.1 2).toInt = 4
  · have c2 : σ.2.2.2.2.2.1.toInt = 4 := by omega
    have e1 : rm1 σ = drF σ := rm1_t (by omega)
    have ek : (rmF σ).2.2.2.2.2.1 = 4 := by
      unfold rmF
      rw [e1]
      rfl
    have ep : (rmF σ).2.2.2.2.1 = va_up (rtP σ.2.2.2.2.1) 3 σ.1 := by
      unfold rmF
      rw [e1]
      rfl
    have em : (m.1 2).toInt = 4 := by
      rw [h1]; unfold kwS
      rw [if_pos c, c]
      show (Int32.ofInt (4 - 1 + 1)).toInt = 4
      rfl
    refine ⟨by show (m.1 2).toInt = (rmF σ).2.2.2.2.2.1.toInt; rw [ek, em]; rfl, fun i hi => ?_⟩
    have hi2 : (i : Int) < 4 := by
      have : (i : Int) < (rmF σ).2.2.2.2.2.1.toInt := hi
      rw [ek] at this
      exact this
    show Rs ((rmF σ).2.2.2.2.1 i) _
    rw [ep, h2]
    show Rs _ (fun k => kwB μ (2203 * i + k))
    unfold kwB
    rw [if_pos c, c]
    by_cases e : i = 3
    · subst e
      rw [va_up_self]
      refine g1.congr hok.1 (fun k hk2 => ?_)
      show cpB _ _ _ _ _ = _
      unfold cpB
      rw [if_pos (by omega)]
      exact congrArg μ.2.1 (by omega)
    · rw [va_up_ne _ _ e]
      have er : rtP σ.2.2.2.2.1 i = σ.2.2.2.2.1 (i + 1) := if_pos (by omega)
      rw [er]
      refine (g3 (i + 1) (by omega)).congr (hp _ (by omega)) (fun k hk2 => ?_)
      show cpB _ _ _ _ _ = _
      unfold cpB shB
      rw [if_neg (by omega), if_pos (by omega)]
      exact congrArg μ.2.2.1 (by omega)
  · have e1 : rm1 σ = σ := rm1_f (by omega)
    have ek : (rmF σ).2.2.2.2.2.1.toInt = σ.2.2.2.2.2.1.toInt + 1 := by
      unfold rmF
      rw [e1]
      exact zi_ofI (by omega)
    have ep : (rmF σ).2.2.2.2.1 = va_up σ.2.2.2.2.1 σ.2.2.2.2.2.1.toInt.toNat σ.1 := by
      unfold rmF
      rw [e1]
    have em : (m.1 2).toInt = (μ.1 2).toInt + 1 := by
      rw [h1]; unfold kwS
      rw [if_neg c, upd_at]
      exact zi_ofI (by omega)
    refine ⟨by show (m.1 2).toInt = (rmF σ).2.2.2.2.2.1.toInt; omega, fun i hi => ?_⟩
    have hi2 : (i : Int) < σ.2.2.2.2.2.1.toInt + 1 := by
      have : (i : Int) < (rmF σ).2.2.2.2.2.1.toInt := hi
      omega
    show Rs ((rmF σ).2.2.2.2.1 i) _
    rw [ep, h2]
    show Rs _ (fun k => kwB μ (2203 * i + k))
    unfold kwB
    rw [if_neg c, g2]
    by_cases e : i = σ.2.2.2.2.2.1.toInt.toNat
    · rw [← e, va_up_self]
      refine g1.congr hok.1 (fun k hk2 => ?_)
      show cpB _ _ _ _ _ = _
      unfold cpB
      rw [if_pos (by omega)]
      exact congrArg μ.2.1 (by omega)
    · rw [va_up_ne _ _ e]
      refine (g3 i (by omega)).congr (hp _ (by omega)) (fun k hk2 => ?_)
      show cpB _ _ _ _ _ = _
      unfold cpB
      rw [if_neg (by omega)]
theorem kw_f {μ : MD} {z : Int32} (c : (μ.1 2).toInt ≠ 4) (e : z.toInt = (μ.1 2).toInt + 1) : ((upd μ.1 2 z, μ.2.1, cpB μ.2.2.1 μ.2.1 (2203 * (μ.1 2).toInt) 2203, μ.2.2.2) : MD) = (kwS μ, μ.2.1, kwB μ, μ.2.2.2) := by
  unfold kwS kwB
  rw [if_neg c, if_neg c, zi_eqOf e]
theorem kw_t {μ : MD} {y z : Int32} (c : (μ.1 2).toInt = 4) (e : z.toInt = (μ.1 2).toInt - 1 + 1) : ((upd (upd μ.1 2 y) 2 z, μ.2.1, cpB (shB μ.2.2.1 6609) μ.2.1 (2203 * ((μ.1 2).toInt - 1)) 2203, μ.2.2.2) : MD) = (kwS μ, μ.2.1, kwB μ, μ.2.2.2) := by
  unfold kwS kwB
  rw [if_pos c, if_pos c, zi_eqOf e, upd_upd]
