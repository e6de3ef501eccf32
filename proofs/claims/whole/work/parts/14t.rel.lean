/-! the row of numbers, and the state that it is -/
abbrev cR (s : Nat → Int32) (t w : Int) : Int := (s (10 + 731 * t + w).toNat).toInt
/-- what a station's water needs -/
def Rw (τ : SD) (s : Nat → Int32) : Prop := (∀ i : Int, 0 ≤ i → i < 3 → (s (1 + 3 * i).toNat).toInt = (τ.2.1 i.toNat 0).toInt ∧ (s (1 + 3 * i + 1).toNat).toInt = (τ.2.1 i.toNat 1).toInt ∧ (s (1 + 3 * i + 2).toNat).toInt = (τ.2.1 i.toNat 2).toInt) ∧ ∀ t : Int, 0 ≤ t → t < 3 → cR s t 0 = ((τ.2.2 t.toNat).1 0).toInt ∧ cR s t 1 = ((τ.2.2 t.toNat).1 1).toInt ∧ cR s t 2 = ((τ.2.2 t.toNat).1 2).toInt
/-- a station's notes and corrections -/
def Rn (c : Int → Int) (d : GD) (n : Int) : Prop := ((∀ h : Int, 0 ≤ h → h ≤ 120 → c (610 + h) = 0 ∨ c (610 + h) = 1) ∧ c (610 + 0) = 1 ∧ c (610 + (d.1 11).toInt) = 1 ∧ (∀ h : Int, (d.1 11).toInt < h → h ≤ 120 → c (610 + h) = 0) ∧ c (489 + (d.1 11).toInt) = (d.1 10).toInt ∧ (d.1 9).toInt = sumZ (fun h => c (610 + h)) 0 121) ∧ (∀ h : Int, (d.1 11).toInt ≤ h → h < n → corrZ d h = (d.1 10).toInt) ∧ (∀ i h k : Int, 0 ≤ i → i ≤ h → h < k → k ≤ 120 → c (610 + i) = 1 → c (610 + k) = 1 → (∀ j : Int, i < j → j < k → c (610 + j) = 0) → corrZ d h = c (489 + i) + shZ (c (489 + k) - c (489 + i)) (h - i) (k - i)) ∧ (∀ h : Int, 0 ≤ h → h ≤ 120 → 0 ≤ c (489 + h) ∧ c (489 + h) ≤ 120) ∧ ((d.1 11).toInt = n → (d.1 10).toInt = (d.1 7).toInt)
/-- a station's hours -/
def Rh (c : Int → Int) (d : GD) : Prop := ∀ h : Int, 0 ≤ h → h < 120 → (c (129 + h) = if kindZ d h = 0 then 1 else 0) ∧ (c (369 + h) = if kindZ d h = 2 then 1 else 0) ∧ (kindZ d h = 0 → c (9 + h) = readZ d h) ∧ (kindZ d h = 2 → c (249 + h) = readZ d h)
def Rg (c : Int → Int) (d : GD) (n : Int) : Prop := (∀ k : Int, 0 ≤ k → k ≤ 8 → c k = (d.1 k.toNat).toInt) ∧ Rh c d ∧ Rn c d n
def Rs (τ : SD) (s : Nat → Int32) : Prop := (s (0 : Int).toNat).toInt = τ.1.toInt ∧ (∀ i : Int, 0 ≤ i → i < 3 → (s (1 + 3 * i).toNat).toInt = (τ.2.1 i.toNat 0).toInt ∧ (s (1 + 3 * i + 1).toNat).toInt = (τ.2.1 i.toNat 1).toInt ∧ (s (1 + 3 * i + 2).toNat).toInt = (τ.2.1 i.toNat 2).toInt) ∧ ∀ t : Int, 0 ≤ t → t < 3 → Rg (fun w => cR s t w) (τ.2.2 t.toNat) τ.1.toInt
theorem Rs.g {τ : SD} {s : Nat → Int32} (h : Rs τ s) {t : Int} (ht : 0 ≤ t ∧ t < 3) : Rg (fun w => cR s t w) (τ.2.2 t.toNat) τ.1.toInt := h.2.2 t ht.1 ht.2
theorem Rs.sc {τ : SD} {s : Nat → Int32} (h : Rs τ s) {t : Int} (ht : 0 ≤ t ∧ t < 3) (k : Int) (hk : 0 ≤ k ∧ k ≤ 8) : cR s t k = ((τ.2.2 t.toNat).1 k.toNat).toInt := (h.g ht).1 k hk.1 hk.2
theorem Rs.w {τ : SD} {s : Nat → Int32} (h : Rs τ s) : Rw τ s := ⟨h.2.1, fun _ h0 h1 => ⟨h.sc ⟨h0, h1⟩ 0 (by omega), h.sc ⟨h0, h1⟩ 1 (by omega), h.sc ⟨h0, h1⟩ 2 (by omega)⟩⟩
theorem dv_f {a b : Int} (ha : a < 0) (hb : 0 < b) : -((-a + b - 1) / b) = a / b := by
  have e := Int.mul_ediv_add_emod a b
  have h1 := Int.emod_nonneg a (show b ≠ 0 by omega)
  have h2 := Int.emod_lt_of_pos a hb
  have e2 : (-a + b - 1) / b = -(a / b) := by
    rw [Int.ediv_eq_iff_of_pos hb]
    have e3 : b * -(a / b) = -(b * (a / b)) := Int.mul_neg _ _
    have e4 : -(a / b) * b = b * -(a / b) := Int.mul_comm _ _
    constructor <;> omega
  rw [e2, Int.neg_neg]
theorem if_1 {P : Prop} [Decidable P] (h : (if P then (1 : Int) else 0) = 1) : P := by
  by_cases c : P
  · exact c
  · rw [if_neg c] at h
    omega
theorem if_n1 {P : Prop} [Decidable P] (h : (if P then (1 : Int) else 0) ≠ 1) : ¬ P := by
  intro c
  rw [if_pos c] at h
  omega
theorem Rs.rd {τ : SD} {s : Nat → Int32} (h : Rs τ s) {t : Int} (ht : 0 ≤ t ∧ t < 3) {i : Int} (hi : 0 ≤ i ∧ i < 120) : (cR s t (129 + i) = if kindZ (τ.2.2 t.toNat) i = 0 then 1 else 0) ∧ (cR s t (369 + i) = if kindZ (τ.2.2 t.toNat) i = 2 then 1 else 0) ∧ (kindZ (τ.2.2 t.toNat) i = 0 → cR s t (9 + i) = readZ (τ.2.2 t.toNat) i) ∧ (kindZ (τ.2.2 t.toNat) i = 2 → cR s t (249 + i) = readZ (τ.2.2 t.toNat) i) := (h.g ht).2.1 i hi.1 hi.2
theorem Rs.n {τ : SD} {s : Nat → Int32} (h : Rs τ s) {t : Int} (ht : 0 ≤ t ∧ t < 3) : Rn (fun w => cR s t w) (τ.2.2 t.toNat) τ.1.toInt := (h.g ht).2.2
