/-! what the object tells -/
abbrev rdP (o : GD) (a b : Int) : Prop := ∀ j : Int, a ≤ j → j ≤ b → kindZ o j = 0
noncomputable def itC {α : Sort _} (P : Prop) (x y : α) : α := @ite α P (Classical.propDecidable P) x y
theorem itC_t {α : Sort _} {P : Prop} {x y : α} (h : P) : itC P x y = x := by
  unfold itC
  exact if_pos h
theorem itC_f {α : Sort _} {P : Prop} {x y : α} (h : ¬ P) : itC P x y = y := by
  unfold itC
  exact if_neg h
def cntK (d : GD) (k : Int) : Int := cntZ (fun j => (d.2.1 j).toInt = k) 120
def gapsZ (d : GD) : Int := cntZ (fun j => sgP d (j : Int)) 120
def stW (d : GD) (w : Int) : Int := if w = 0 then (d.1 0).toInt else if w = 1 then (d.1 1).toInt else if w = 2 then (d.1 2).toInt + 100000 else if w = 3 then (d.1 3).toInt + 100000 else if w = 4 then (d.1 4).toInt else if w = 5 then (d.1 5).toInt else if w = 6 then (d.1 6).toInt else if w = 7 then (d.1 7).toInt else if w = 8 then (if (d.1 8).toInt = 0 then 0 else 1) else if w = 9 then cntK d 0 else if w = 10 then gapsZ d else if w = 11 then cntK d 2 else if w = 12 then (d.1 9).toInt else -2
theorem stW_out {d : GD} {w : Int} (h : w < 0 ∨ 12 < w) : stW d w = -2 := by
  unfold stW
  rw [if_neg (by omega), if_neg (by omega), if_neg (by omega), if_neg (by omega), if_neg (by omega), if_neg (by omega), if_neg (by omega), if_neg (by omega), if_neg (by omega), if_neg (by omega), if_neg (by omega), if_neg (by omega), if_neg (by omega)]
def a_station (σ : FD) (t w : Int) : Int := if ¬ (0 ≤ t ∧ t < 3) then -1 else stW (σ.1.2.2 t.toNat) w
def hrW (d : GD) (h w : Int) : Int := if w = 0 then (if kindZ d h = 0 then readZ d h + 100000 else -5) else if w = 1 then (if kindZ d h = 0 then cordZ d h + 100000 else -5) else if w = 2 then (if kindZ d h = 2 then valZ d h + 100000 else -5) else if w = 3 then corrZ d h else kindZ d h
def a_hour (σ : FD) (t h w : Int) : Int := if ¬ (0 ≤ t ∧ t < 3) then -1 else if h < 0 ∨ ¬ (0 ≤ w ∧ w ≤ 4) then -2 else if σ.1.1.toInt ≤ h then -5 else hrW (σ.1.2.2 t.toNat) h w
abbrev inP (d : GD) (k : Int) : Prop := kindZ d (fgZ d k - 1) = 0 ∧ kindZ d (hbZ d (fgZ d k)) = 0
def mwZ (d : GD) (a b : Int) : Int := sumZ (fun i => if kindZ d i = 2 then 1 else 0) a (b - a).toNat
def gpW (d : GD) (k w : Int) : Int := if w = 0 then fgZ d k else if w = 1 then hbZ d (fgZ d k) - 1 else if w = 2 then (if inP d k then 1 else 0) else if w = 3 then mwZ d (fgZ d k) (hbZ d (fgZ d k)) else -2
theorem gpW_out {d : GD} {k w : Int} (h : w < 0 ∨ 3 < w) : gpW d k w = -2 := by
  unfold gpW
  rw [if_neg (by omega), if_neg (by omega), if_neg (by omega), if_neg (by omega)]
def a_gap (σ : FD) (t k w : Int) : Int := if ¬ ((0 ≤ t ∧ t < 3) ∧ fgZ (σ.1.2.2 t.toNat) k ≠ -1) then -1 else gpW (σ.1.2.2 t.toNat) k w
/-- what mend, misfit and bestPhase ask first -/
def ckZ (σ : FD) (t k o f : Int) : Int := if ¬ ((0 ≤ t ∧ t < 3) ∧ (0 ≤ o ∧ o < 3) ∧ fgZ (σ.1.2.2 t.toNat) k ≠ -1) then -1 else if ¬ (-12 ≤ f ∧ f ≤ 12) ∨ o = t then -2 else if inP (σ.1.2.2 t.toNat) k then 0 else -4
theorem ckZ_0 {σ : FD} {t k o f : Int} (h : ckZ σ t k o f = 0) : (0 ≤ t ∧ t < 3) ∧ (0 ≤ o ∧ o < 3) ∧ fgZ (σ.1.2.2 t.toNat) k ≠ -1 ∧ (-12 ≤ f ∧ f ≤ 12) ∧ o ≠ t ∧ inP (σ.1.2.2 t.toNat) k := by
  unfold ckZ at h
  split at h
  · omega
  · split at h
    · omega
    · split at h
      · rename_i h1 h2 h3
        refine ⟨by omega, by omega, by omega, by omega, by omega, h3⟩
      · omega
/-- the hour ahead of a gap and the one behind it -/
def ahZ (d : GD) (k : Int) : Int := fgZ d k - 1
def bhZ (d : GD) (k : Int) : Int := hbZ d (fgZ d k)
def mfZ (d o : GD) (a b f : Int) : Int := sumZ (mfT d o f) (a - 11) 12 + sumZ (mfT d o f) (b + 1) 12
noncomputable def a_misfit (σ : FD) (t k o f : Int) : Int := if ckZ σ t k o f ≠ 0 then ckZ σ t k o f else itC (rdP (σ.1.2.2 o.toNat) (ahZ (σ.1.2.2 t.toNat) k + f) (bhZ (σ.1.2.2 t.toNat) k + f)) (mfZ (σ.1.2.2 t.toNat) (σ.1.2.2 o.toNat) (ahZ (σ.1.2.2 t.toNat) k) (bhZ (σ.1.2.2 t.toNat) k) f) (-5)
noncomputable def a_mend (σ : FD) (t k o f : Int) : Int := if ckZ σ t k o f ≠ 0 then ckZ σ t k o f else itC (rdP (σ.1.2.2 o.toNat) (ahZ (σ.1.2.2 t.toNat) k + f) (bhZ (σ.1.2.2 t.toNat) k + f)) (bhZ (σ.1.2.2 t.toNat) k - ahZ (σ.1.2.2 t.toNat) k - 1) (-4)
noncomputable def s_mend (σ : FD) (t k o f : Int) : FD := itC (ckZ σ t k o f = 0 ∧ rdP (σ.1.2.2 o.toNat) (ahZ (σ.1.2.2 t.toNat) k + f) (bhZ (σ.1.2.2 t.toNat) k + f)) (actF σ (setGF σ t (mdG (σ.1.2.2 t.toNat) (σ.1.2.2 o.toNat) (ahZ (σ.1.2.2 t.toNat) k) (bhZ (σ.1.2.2 t.toNat) k) f))) σ
/-- the best phase and its misfit behind n steps -/
noncomputable def bpN (d o : GD) (a b : Int) : Nat → Int × Int
  | 0 => (-5, 0)
  | n + 1 => itC (rdP o (a + phZ n) (b + phZ n) ∧ ((bpN d o a b n).1 = -5 ∨ mfZ d o a b (phZ n) < (bpN d o a b n).2)) (phZ n + 100, mfZ d o a b (phZ n)) (bpN d o a b n)
noncomputable def a_bestPhase (σ : FD) (t k o : Int) : Int := if ckZ σ t k o 0 ≠ 0 then ckZ σ t k o 0 else (bpN (σ.1.2.2 t.toNat) (σ.1.2.2 o.toNat) (ahZ (σ.1.2.2 t.toNat) k) (bhZ (σ.1.2.2 t.toNat) k) 25).1
theorem bpN_t {d o : GD} {a b i f v : Int} (hi : 0 ≤ i) (hf : f = phZ i) (h1 : rdP o (a + f) (b + f)) (hv : v = mfZ d o a b f) (h2 : (bpN d o a b i.toNat).1 = -5 ∨ v < (bpN d o a b i.toNat).2) : bpN d o a b (i + 1).toNat = (f + 100, v) := by
  rw [show (i + 1).toNat = i.toNat + 1 by omega]
  show itC _ _ _ = _
  rw [show ((i.toNat : Nat) : Int) = i by omega, ← hf, ← hv, itC_t ⟨h1, h2⟩]
theorem bpN_f {d o : GD} {a b i f : Int} (hi : 0 ≤ i) (hf : f = phZ i) (h1 : ¬ rdP o (a + f) (b + f)) : bpN d o a b (i + 1).toNat = bpN d o a b i.toNat := by
  rw [show (i + 1).toNat = i.toNat + 1 by omega]
  show itC _ _ _ = _
  rw [show ((i.toNat : Nat) : Int) = i by omega, ← hf, itC_f (fun q => h1 q.1)]
theorem bpN_n {d o : GD} {a b i f v : Int} (hi : 0 ≤ i) (hf : f = phZ i) (hv : v = mfZ d o a b f) (h2 : (bpN d o a b i.toNat).1 ≠ -5) (h3 : (bpN d o a b i.toNat).2 ≤ v) : bpN d o a b (i + 1).toNat = bpN d o a b i.toNat := by
  rw [show (i + 1).toNat = i.toNat + 1 by omega]
  show itC _ _ _ = _
  rw [show ((i.toNat : Nat) : Int) = i by omega, ← hf, ← hv, itC_f (fun q => q.2.elim h2 (fun w => by omega))]
theorem phZ_b {k : Int} (h : 0 ≤ k ∧ k ≤ 24) : -12 ≤ phZ k ∧ phZ k ≤ 12 := by
  unfold phZ
  split <;> omega
theorem mfZ_b {d o : GD} (h : smallG d) (g : smallG o) (a b f : Int) : 0 ≤ mfZ d o a b f ∧ mfZ d o a b f ≤ 100000000 := by
  have hb1 := sumZ_b (f := mfT d o f) (lo := 0) (hi := 4004000) (by omega) (by omega) (mfT_b h g f)
  have h2 := hb1 (a - 11) 12
  have h3 := hb1 (b + 1) 12
  unfold mfZ
  omega
/-- the hour of a high of a rank -/
def hgZ (d : GD) (k : Int) : Int := nthZ (fun j => hiP d (j : Int)) k 119
def a_high (σ : FD) (t k : Int) : Int := if ¬ (0 ≤ t ∧ t < 3) then -1 else if k < 0 then -2 else if hgZ (σ.1.2.2 t.toNat) k = -1 then -5 else hgZ (σ.1.2.2 t.toNat) k
theorem hi0 (d : GD) : ¬ hiP d 0 := by
  rintro ⟨h, -⟩
  have e : kindZ d (0 - 1) = 3 := rfl
  unfold hvP at h
  omega
def allK (σ : SD) (k : Int) : Int := hkN σ.2.2 k 3
def a_count (σ : FD) (w : Int) : Int := if w = 0 then σ.1.1.toInt else if w = 1 then onN σ.1.2.2 3 else if w = 2 then allK σ.1 0 else if w = 3 then allK σ.1 1 + allK σ.1 2 else if w = 4 then allK σ.1 2 else if w = 5 then σ.2.2.2.2.2.1.toInt else if w = 6 then σ.2.2.2.2.2.2.1.toInt else -2
theorem a_count_out {σ : FD} {w : Int} (h : w < 0 ∨ 6 < w) : a_count σ w = -2 := by
  unfold a_count
  rw [if_neg (by omega), if_neg (by omega), if_neg (by omega), if_neg (by omega), if_neg (by omega), if_neg (by omega), if_neg (by omega)]
def a_forget (σ : FD) (t : Int) : Int := if ¬ (0 ≤ t ∧ t < 3) then -1 else if cntK (σ.1.2.2 t.toNat) 2 = 0 then -5 else cntK (σ.1.2.2 t.toNat) 2
def s_forget (σ : FD) (t : Int) : FD := if (0 ≤ t ∧ t < 3) ∧ ¬ cntK (σ.1.2.2 t.toNat) 2 = 0 then actF σ (setGF σ t ((σ.1.2.2 t.toNat).1, fgK (σ.1.2.2 t.toNat) 120, (σ.1.2.2 t.toNat).2.2)) else σ
theorem hkN_b (g : Nat → GD) (k : Int) (n : Nat) : 0 ≤ hkN g k n ∧ hkN g k n ≤ 120 * n := by
  induction n with
  | zero => exact ⟨Int.le_refl _, by show (0 : Int) ≤ _; omega⟩
  | succ n ih =>
    have h := cntZ_b (fun j => ((g n).2.1 j).toInt = k) 120
    show 0 ≤ hkN g k n + _ ∧ hkN g k n + _ ≤ _
    omega
