/-! values and high waters -/
def valA (σ : FD) (t h : Int) : Int := if a_hour σ t h 1 = -5 then a_hour σ t h 2 else a_hour σ t h 1
theorem va_all {σ : FD} {t h : Int} (hx : fdX σ) (ht : 0 ≤ t ∧ t < 3) (hh : 0 ≤ h ∧ h < σ.1.1.toInt) :
    (hvP (σ.1.2.2 t.toNat) h ∧ valA σ t h = valZ (σ.1.2.2 t.toNat) h + 100000 ∧ 0 < valA σ t h) ∨ (¬ hvP (σ.1.2.2 t.toNat) h ∧ valA σ t h = -5) := by
  obtain ⟨h1, h2, h3, h4, h5⟩ := hr_all hx ht hh
  unfold valA valZ hvP
  rcases h1 with ⟨q, a0, a1, a2⟩ | ⟨q, a0, a1, a2⟩ | ⟨q, a0, a1, a2⟩
  · rw [if_neg (by omega), if_neg (by omega)]
    exact Or.inl ⟨Or.inl q, a1, by omega⟩
  · rw [if_pos a1]
    exact Or.inr ⟨by omega, a2⟩
  · rw [if_pos a1, if_pos q]
    exact Or.inl ⟨Or.inr q, a2, by omega⟩
theorem va_b {σ : FD} {t h : Int} (hx : fdX σ) (ht : 0 ≤ t ∧ t < 3) (hh : 0 ≤ h ∧ h < σ.1.1.toInt) : valA σ t h = -5 ∨ 0 < valA σ t h := by
  rcases va_all hx ht hh with q | q
  · exact Or.inr q.2.2
  · exact Or.inl q.2
theorem hi_iff {σ : FD} {t h : Int} (hx : fdX σ) (ht : 0 ≤ t ∧ t < 3) (hh : 1 ≤ h ∧ h < σ.1.1.toInt - 1) :
    hiP (σ.1.2.2 t.toNat) h ↔ (valA σ t (h - 1) ≠ -5 ∧ valA σ t (h + 1) ≠ -5 ∧ valA σ t (h - 1) < valA σ t h ∧ valA σ t (h + 1) < valA σ t h) := by
  have v0 := va_all (h := h - 1) hx ht (by omega)
  have v1 := va_all (h := h) hx ht (by omega)
  have v2 := va_all (h := h + 1) hx ht (by omega)
  unfold hiP
  constructor
  · rintro ⟨a, b, c, d, e⟩
    rcases v0 with v0 | v0
    · rcases v1 with v1 | v1
      · rcases v2 with v2 | v2
        · exact ⟨by omega, by omega, by omega, by omega⟩
        · exact absurd c v2.1
      · exact absurd b v1.1
    · exact absurd a v0.1
  · rintro ⟨a, b, c, d⟩
    rcases v0 with v0 | v0
    · rcases v1 with v1 | v1
      · rcases v2 with v2 | v2
        · exact ⟨v0.1, v1.1, v2.1, by omega, by omega⟩
        · exact absurd v2.2 b
      · omega
    · exact absurd v0.2 a
theorem ag_hi {σ : FD} {t k : Int} (ht : 0 ≤ t ∧ t < 3) (hk : 0 ≤ k) : a_high σ t k = if hgZ (σ.1.2.2 t.toNat) k = -1 then -5 else hgZ (σ.1.2.2 t.toNat) k := by
  unfold a_high
  rw [if_neg (by omega), if_neg (by omega)]
theorem hg_at {σ : FD} {t h : Int} (ht : 0 ≤ t ∧ t < 3) (hh : 0 ≤ h ∧ h < 119) (hi : hiP (σ.1.2.2 t.toNat) h) : a_high σ t (cntZ (fun j => hiP (σ.1.2.2 t.toNat) (j : Int)) h.toNat) = h := by
  have hb := (cntZ_b (fun j => hiP (σ.1.2.2 t.toNat) (j : Int)) h.toNat).1
  have e : hgZ (σ.1.2.2 t.toNat) (cntZ (fun j => hiP (σ.1.2.2 t.toNat) (j : Int)) h.toNat) = h := by
    refine nthZ_eq (q := fun j => hiP (σ.1.2.2 t.toNat) (j : Int)) (n := 119) hh.1 ?_ rfl (by omega)
    show hiP (σ.1.2.2 t.toNat) ((h.toNat : Nat) : Int)
    rw [show ((h.toNat : Nat) : Int) = h by omega]
    exact hi
  rw [ag_hi ht hb, e, if_neg (by omega)]
theorem hi_in {d : GD} {n h : Int} (hd : gaugeOk d n) (hn : n ≤ 120) (hi : hiP d h) : 1 ≤ h ∧ h < n - 1 := by
  obtain ⟨a, b, c, e⟩ := hi
  have k0 : 0 ≤ h - 1 ∧ h - 1 < n := by
    refine Classical.byContradiction (fun q => ?_)
    have := kind_out hd hn q
    unfold hvP at a
    omega
  have k1 : 0 ≤ h + 1 ∧ h + 1 < n := by
    refine Classical.byContradiction (fun q => ?_)
    have := kind_out hd hn q
    unfold hvP at c
    omega
  omega
theorem hg_end {σ : FD} {t i : Int} (hx : fdX σ) (ht : 0 ≤ t ∧ t < 3) (hi : 1 ≤ i ∧ σ.1.1.toInt - 1 ≤ i) : a_high σ t (cntZ (fun j => hiP (σ.1.2.2 t.toNat) (j : Int)) i.toNat) = -5 := by
  have hg := hx.1.1.2.2 t.toNat (by omega)
  have hn := hx.1.1.1
  have hb := (cntZ_b (fun j => hiP (σ.1.2.2 t.toNat) (j : Int)) i.toNat).1
  rw [ag_hi ht hb, if_pos]
  refine Classical.byContradiction (fun q => ?_)
  have u := (nthZ_no (q := fun j => hiP (σ.1.2.2 t.toNat) (j : Int)) q).2
  by_cases c : i.toNat ≤ 119
  · have := cntZ_tail (q := fun j => hiP (σ.1.2.2 t.toNat) (j : Int)) c (fun j a b w => by
      have := hi_in hg hn.2 w
      omega)
    omega
  · have := cntZ_mono (fun j => hiP (σ.1.2.2 t.toNat) (j : Int)) (show 119 ≤ i.toNat by omega)
    omega
theorem hc_t {σ : FD} {t i : Int} (hi : 0 ≤ i) (h : hiP (σ.1.2.2 t.toNat) i) : cntZ (fun j => hiP (σ.1.2.2 t.toNat) (j : Int)) (i + 1).toNat = cntZ (fun j => hiP (σ.1.2.2 t.toNat) (j : Int)) i.toNat + 1 := cntI_t (q := hiP (σ.1.2.2 t.toNat)) hi h
theorem hc_f {σ : FD} {t i : Int} (hi : 0 ≤ i) (h : ¬ hiP (σ.1.2.2 t.toNat) i) : cntZ (fun j => hiP (σ.1.2.2 t.toNat) (j : Int)) (i + 1).toNat = cntZ (fun j => hiP (σ.1.2.2 t.toNat) (j : Int)) i.toNat := cntI_f (q := hiP (σ.1.2.2 t.toNat)) hi h
theorem hc_1 {σ : FD} {t : Int} : cntZ (fun j => hiP (σ.1.2.2 t.toNat) (j : Int)) (1 : Int).toNat = 0 := hc_f (i := 0) (Int.le_refl _) (hi0 _)
theorem kc_t {σ : FD} {t i : Int} (hi : 0 ≤ i) (h : kindZ (σ.1.2.2 t.toNat) i = 0) : cntZ (fun j => kindZ (σ.1.2.2 t.toNat) (j : Int) = 0) (i + 1).toNat = cntZ (fun j => kindZ (σ.1.2.2 t.toNat) (j : Int) = 0) i.toNat + 1 := cntI_t (q := fun i => kindZ (σ.1.2.2 t.toNat) i = 0) hi h
theorem kc_f {σ : FD} {t i : Int} (hi : 0 ≤ i) (h : ¬ kindZ (σ.1.2.2 t.toNat) i = 0) : cntZ (fun j => kindZ (σ.1.2.2 t.toNat) (j : Int) = 0) (i + 1).toNat = cntZ (fun j => kindZ (σ.1.2.2 t.toNat) (j : Int) = 0) i.toNat := cntI_f (q := fun i => kindZ (σ.1.2.2 t.toNat) i = 0) hi h
