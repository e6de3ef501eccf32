/-! acts on the relation -/
theorem Rel.clr {σ : FD} {μ : MD} (h : Rel σ μ) : Rel (s_clearText σ) (upd μ.1 6 0, μ.2) := by
  obtain ⟨g1, g2, g3, g4⟩ := h
  refine ⟨g1, ?_, ?_, ?_, ?_⟩
  · show (upd μ.1 6 0 2).toInt = _ ∧ _
    rw [upd_ne (by omega)]
    exact g2
  · show (upd μ.1 6 0 4).toInt = _ ∧ _
    rw [upd_ne (by omega)]
    exact g3
  · show (upd μ.1 6 0 6).toInt = _
    rw [upd_at]
    rfl
  · intro j hj
    have hj2 : (j : Int) < (0 : Int32).toInt := hj
    have e : (0 : Int32).toInt = 0 := rfl
    omega
theorem Rel.typ {σ : FD} {μ : MD} {x z : Int32} (h : Rel σ μ) (hok : fdOk σ) (hl : (μ.1 6).toInt ≠ 60) (hz : z.toInt = (μ.1 6).toInt + 1) : Rel (s_type σ x) (upd μ.1 6 z, μ.2.1, μ.2.2.1, μ.2.2.2.1, upd μ.2.2.2.2 (μ.1 6).toInt.toNat x) := by
  obtain ⟨g1, g2, g3, g4, g5⟩ := h
  have hox := hok.2.2.2.2.2.1
  unfold s_type
  rw [if_neg (by omega)]
  have e : txA σ.2.2.2.2.2.2 x = (z, upd σ.2.2.2.2.2.2.2 σ.2.2.2.2.2.2.1.toInt.toNat x) := (txA_eq (by omega) (zi_eqOf (by omega))).symm
  rw [e]
  refine ⟨g1, ?_, ?_, ?_, ?_⟩
  · show (upd μ.1 6 z 2).toInt = _ ∧ _
    rw [upd_ne (by omega)]
    exact g2
  · show (upd μ.1 6 z 4).toInt = _ ∧ _
    rw [upd_ne (by omega)]
    exact g3
  · show (upd μ.1 6 z 6).toInt = z.toInt
    rw [upd_at]
  · intro j hj
    have hj2 : (j : Int) < z.toInt := hj
    show (upd μ.2.2.2.2 (μ.1 6).toInt.toNat x j).toInt = (upd σ.2.2.2.2.2.2.2 σ.2.2.2.2.2.2.1.toInt.toNat x j).toInt
    rw [g4]
    by_cases c : j = σ.2.2.2.2.2.2.1.toInt.toNat
    · subst c
      rw [upd_at, upd_at]
    · rw [upd_ne c, upd_ne c]
      exact g5 j (by omega)
