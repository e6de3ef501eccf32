/-! what the object's calls answer, and what it is then -/
abbrev gzF (σ : FD) (t : Int) : GD := σ.1.2.2 t.toNat
abbrev hrF (σ : FD) : Int := σ.1.1.toInt
/-- the history as it is behind an act, with a state that is new -/
abbrev actF (σ : FD) (τ : SD) : FD := (τ, σ.2.1, σ.2.2.1, (rmF σ).2.2.2.1, (rmF σ).2.2.2.2.1, (rmF σ).2.2.2.2.2.1, σ.2.2.2.2.2.2)
abbrev setGF (σ : FD) (t : Int) (d : GD) : SD := (σ.1.1, σ.1.2.1, va_up σ.1.2.2 t.toNat d)
-- setWave
def newW (σ : FD) (w : Int) (x y z : Int32) : Nat → Nat → Int32 := va_up σ.1.2.1 w.toNat (upd (upd (upd (σ.1.2.1 w.toNat) 0 x) 1 y) 2 z)
def a_setWave (σ : FD) (w a p f : Int) (x y z : Int32) : Int := if ¬ (0 ≤ w ∧ w < 3) then -1 else if ¬ ((0 ≤ a ∧ a ≤ 3000) ∧ (2 ≤ p ∧ p ≤ 48) ∧ (0 ≤ f ∧ f ≤ 47)) then -2 else if σ.1.1.toInt ≠ 0 then -4 else if ((σ.1.2.1 w.toNat 0).toInt = a ∧ (σ.1.2.1 w.toNat 1).toInt = p) ∧ (σ.1.2.1 w.toNat 2).toInt = f then -5 else seaZ (newW σ w x y z) 0 + 100000
def s_setWave (σ : FD) (w a p f : Int) (x y z : Int32) : FD := if (0 ≤ w ∧ w < 3) ∧ ((0 ≤ a ∧ a ≤ 3000) ∧ (2 ≤ p ∧ p ≤ 48) ∧ (0 ≤ f ∧ f ≤ 47)) ∧ σ.1.1.toInt = 0 ∧ ¬ (((σ.1.2.1 w.toNat 0).toInt = a ∧ (σ.1.2.1 w.toNat 1).toInt = p) ∧ (σ.1.2.1 w.toNat 2).toInt = f) then actF σ (settle (σ.1.1, newW σ w x y z, σ.1.2.2)) else σ
-- setStation
def newG (σ : FD) (t : Int) (x y z : Int32) : GD := (upd (upd (upd (σ.1.2.2 t.toNat).1 0 x) 1 y) 2 z, (σ.1.2.2 t.toNat).2)
def a_setStation (σ : FD) (t a b f : Int) (x y z : Int32) : Int := if ¬ (0 ≤ t ∧ t < 3) then -1 else if ¬ ((0 ≤ a ∧ a ≤ 12) ∧ (10 ≤ b ∧ b ≤ 200) ∧ (-2000 ≤ f ∧ f ≤ 2000)) then -2 else if σ.1.1.toInt ≠ 0 then -4 else if (((σ.1.2.2 t.toNat).1 0).toInt = a ∧ ((σ.1.2.2 t.toNat).1 1).toInt = b) ∧ ((σ.1.2.2 t.toNat).1 2).toInt = f then -5 else watZ σ.1.2.1 (newG σ t x y z) 0 + 100000
def s_setStation (σ : FD) (t a b f : Int) (x y z : Int32) : FD := if (0 ≤ t ∧ t < 3) ∧ ((0 ≤ a ∧ a ≤ 12) ∧ (10 ≤ b ∧ b ≤ 200) ∧ (-2000 ≤ f ∧ f ≤ 2000)) ∧ σ.1.1.toInt = 0 ∧ ¬ ((((σ.1.2.2 t.toNat).1 0).toInt = a ∧ ((σ.1.2.2 t.toNat).1 1).toInt = b) ∧ ((σ.1.2.2 t.toNat).1 2).toInt = f) then actF σ (setGF σ t (sfG σ.1.2.1 (newG σ t x y z))) else σ
-- setRate
abbrev rateZ (σ : FD) (t b : Int) : Int := if b = 0 then ((gzF σ t).1 5).toInt else ((gzF σ t).1 6).toInt
def a_setRate (σ : FD) (t b h : Int) : Int := if ¬ (0 ≤ t ∧ t < 3) then -1 else if ¬ (0 ≤ h ∧ h ≤ 20) then -2 else if (if b = 0 then ((σ.1.2.2 t.toNat).1 5).toInt else ((σ.1.2.2 t.toNat).1 6).toInt) = h then -5 else (if b = 0 then ((σ.1.2.2 t.toNat).1 5).toInt else ((σ.1.2.2 t.toNat).1 6).toInt)
def s_setRate (σ : FD) (t b h : Int) (x : Int32) : FD := if (0 ≤ t ∧ t < 3) ∧ (0 ≤ h ∧ h ≤ 20) ∧ ¬ (if b = 0 then ((σ.1.2.2 t.toNat).1 5).toInt else ((σ.1.2.2 t.toNat).1 6).toInt) = h then actF σ (setGF σ t (if b = 0 then (upd (σ.1.2.2 t.toNat).1 5 x, (σ.1.2.2 t.toNat).2) else (upd (σ.1.2.2 t.toNat).1 6 x, (σ.1.2.2 t.toNat).2))) else σ
-- turn
def a_turn (σ : FD) (t b : Int) (x : Int32) : Int := if ¬ (0 ≤ t ∧ t < 3) then -1 else if ((σ.1.2.2 t.toNat).1 8).toInt = b then -5 else onN (va_up σ.1.2.2 t.toNat (upd (σ.1.2.2 t.toNat).1 8 x, (σ.1.2.2 t.toNat).2)) 3
def s_turn (σ : FD) (t b : Int) (x : Int32) : FD := if (0 ≤ t ∧ t < 3) ∧ ¬ ((σ.1.2.2 t.toNat).1 8).toInt = b then actF σ (setGF σ t (upd (σ.1.2.2 t.toNat).1 8 x, (σ.1.2.2 t.toNat).2)) else σ
-- clean
def a_clean (σ : FD) (t : Int) : Int := if ¬ (0 ≤ t ∧ t < 3) then -1 else if ((σ.1.2.2 t.toNat).1 4).toInt = 0 then -5 else ((σ.1.2.2 t.toNat).1 4).toInt
def s_clean (σ : FD) (t : Int) : FD := if (0 ≤ t ∧ t < 3) ∧ ¬ ((σ.1.2.2 t.toNat).1 4).toInt = 0 then actF σ (setGF σ t (upd (σ.1.2.2 t.toNat).1 4 0, (σ.1.2.2 t.toNat).2)) else σ
-- level
def a_level (σ : FD) (t : Int) : Int := if ¬ (0 ≤ t ∧ t < 3) then -1 else if ((σ.1.2.2 t.toNat).1 11).toInt = σ.1.1.toInt then -5 else ((σ.1.2.2 t.toNat).1 7).toInt
def s_level (σ : FD) (t : Int) : FD := if (0 ≤ t ∧ t < 3) ∧ ¬ ((σ.1.2.2 t.toNat).1 11).toInt = σ.1.1.toInt then actF σ (setGF σ t (ntG (σ.1.2.2 t.toNat) σ.1.1)) else σ
theorem ntG_7 (d : GD) (x : Int32) : (ntG d x).1 7 = d.1 7 := by
  unfold ntG
  split <;> rfl
-- pass
def a_pass (σ : FD) (h : Int) : Int := if ¬ (1 ≤ h ∧ h ≤ 120) then -2 else if 120 < σ.1.1.toInt + h then -3 else σ.1.1.toInt + h
def s_pass (σ : FD) (h : Int) : FD := if (1 ≤ h ∧ h ≤ 120) ∧ σ.1.1.toInt + h ≤ 120 then actF σ (passN σ.1 h.toNat) else σ
-- texts
def setTF (σ : FD) (t : TD) : FD := (σ.1, σ.2.1, σ.2.2.1, σ.2.2.2.1, σ.2.2.2.2.1, σ.2.2.2.2.2.1, t)
def a_type (σ : FD) : Int := if 60 ≤ σ.2.2.2.2.2.2.1.toInt then -3 else σ.2.2.2.2.2.2.1.toInt + 1
def s_type (σ : FD) (x : Int32) : FD := if 60 ≤ σ.2.2.2.2.2.2.1.toInt then σ else setTF σ (txA σ.2.2.2.2.2.2 x)
def s_clearText (σ : FD) : FD := setTF σ (0, σ.2.2.2.2.2.2.2)
-- history
def a_undo (σ : FD) : Int := if σ.2.2.2.2.2.1.toInt ≤ 0 then -5 else σ.2.2.2.2.2.1.toInt - 1
def s_undo (σ : FD) : FD := if σ.2.2.2.2.2.1.toInt ≤ 0 then σ else unF σ
def s_keep (σ : FD) : FD := (σ.1, σ.1, 1, σ.2.2.2)
def a_restore (σ : FD) : Int := if σ.2.2.1.toInt = 0 then -5 else σ.2.1.1.toInt
def s_restore (σ : FD) : FD := if σ.2.2.1.toInt = 0 then σ else actF σ σ.2.1
-- what is told
def a_sea (σ : FD) (h : Int) : Int := if ¬ (-24 ≤ h ∧ h ≤ 200) then -2 else seaZ σ.1.2.1 h + 100000
def a_outside (σ : FD) (t h : Int) : Int := if ¬ (0 ≤ t ∧ t < 3) then -1 else if ¬ (0 ≤ h ∧ h ≤ 200) then -2 else watZ σ.1.2.1 (σ.1.2.2 t.toNat) h + 100000
theorem newW_ok {σ : FD} {w a b f : Int} {x y z : Int32} (h : ∀ i, i < 3 → waveOk (σ.1.2.1 i)) (hw : 0 ≤ w ∧ w < 3) (ex : x.toInt = a) (ha : 0 ≤ a ∧ a ≤ 3000) (ey : y.toInt = b) (hb : 2 ≤ b ∧ b ≤ 48) (ez : z.toInt = f) (hf : 0 ≤ f ∧ f ≤ 47) : ∀ i, i < 3 → waveOk (newW σ w x y z i) := by
  intro i hi
  unfold newW
  by_cases e : i = w.toNat
  · subst e
    rw [va_up_self]
    refine ⟨?_, ?_, ?_⟩
    · show 0 ≤ x.toInt ∧ x.toInt ≤ 3000
      omega
    · show 2 ≤ y.toInt ∧ y.toInt ≤ 48
      omega
    · show 0 ≤ z.toInt ∧ z.toInt ≤ 47
      omega
  · rw [va_up_ne _ _ e]
    exact h i hi
theorem newG_ok {σ : FD} {t a b f : Int} {x y z : Int32} (ex : x.toInt = a) (ha : 0 ≤ a ∧ a ≤ 12) (ey : y.toInt = b) (hb : 10 ≤ b ∧ b ≤ 200) (ez : z.toInt = f) (hf : -2000 ≤ f ∧ f ≤ 2000) : staOk (newG σ t x y z) := by
  refine ⟨?_, ?_, ?_⟩
  · show 0 ≤ x.toInt ∧ x.toInt ≤ 12
    omega
  · show 10 ≤ y.toInt ∧ y.toInt ≤ 200
    omega
  · show -2000 ≤ z.toInt ∧ z.toInt ≤ 2000
    omega
