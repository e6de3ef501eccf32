/-! every call keeps what holds of every state -/
theorem setGF_ok {σ : FD} {t : Int} {d : GD} (h : stOk σ.1) (hd : gaugeOk d σ.1.1.toInt) : stOk (setGF σ t d) := ⟨h.1, h.2.1, va_up_gauge h.2.2 hd t.toNat⟩
theorem on_ok {d : GD} {n : Int} {x : Int32} (h : gaugeOk d n) (hx : x.toInt = 0 ∨ x.toInt = 1) : gaugeOk (upd d.1 8 x, d.2) n := by
  obtain ⟨h1, ⟨h2, h3, h4⟩, ⟨h6, h7⟩, h8⟩ := h
  exact ⟨h1, ⟨h2, h3, h4⟩, ⟨h6, hx⟩, h8⟩
theorem actF_ok {σ : FD} {τ : SD} (h : fdOk σ) (hτ : stOk τ) : fdOk (actF σ τ) := by
  obtain ⟨h1, h2, h3, h4, h5, h6⟩ := h
  have key : (∀ i, i < 4 → stOk ((rmF σ).2.2.2.2.1 i)) ∧ 0 ≤ (rmF σ).2.2.2.2.2.1.toInt ∧ (rmF σ).2.2.2.2.2.1.toInt ≤ 4 := by
    by_cases c : 4 ≤ σ.2.2.2.2.2.1.toInt
    · have e1 : rm1 σ = drF σ := rm1_t c
      have ek : (rmF σ).2.2.2.2.2.1 = 4 := by
        unfold rmF
        rw [e1]
        rfl
      have ep : (rmF σ).2.2.2.2.1 = va_up (rtP σ.2.2.2.2.1) 3 σ.1 := by
        unfold rmF
        rw [e1]
        rfl
      refine ⟨fun i hi => ?_, ?_⟩
      · rw [ep]
        by_cases e : i = 3
        · subst e
          rw [va_up_self]
          exact h1
        · rw [va_up_ne _ _ e]
          have er : rtP σ.2.2.2.2.1 i = σ.2.2.2.2.1 (i + 1) := if_pos (by omega)
          rw [er]
          exact h4 (i + 1) (by omega)
      · rw [ek]
        show (0 : Int) ≤ 4 ∧ (4 : Int) ≤ 4
        omega
    · have e1 : rm1 σ = σ := rm1_f (by omega)
      have ek : (rmF σ).2.2.2.2.2.1.toInt = σ.2.2.2.2.2.1.toInt + 1 := by
        unfold rmF
        rw [e1]
        exact zi_ofI (by omega)
      have ep : (rmF σ).2.2.2.2.1 = va_up σ.2.2.2.2.1 σ.2.2.2.2.2.1.toInt.toNat σ.1 := by
        unfold rmF
        rw [e1]
      refine ⟨fun i hi => ?_, by omega⟩
      rw [ep]
      by_cases e : i = σ.2.2.2.2.2.1.toInt.toNat
      · rw [e, va_up_self]
        exact h1
      · rw [va_up_ne _ _ e]
        exact h4 i hi
  exact ⟨hτ, h2, h3, key.1, key.2, h6⟩
theorem k_setWave {σ : FD} {w a b f : Int} {xa xb xf : Int32} (h : fdOk σ) (ea : xa.toInt = a) (eb : xb.toInt = b) (ef : xf.toInt = f) : fdOk (s_setWave σ w a b f xa xb xf) := by
  unfold s_setWave
  split
  · rename_i c
    exact actF_ok h (settle_ok ⟨h.1.1, newW_ok h.1.2.1 c.1 ea c.2.1.1 eb c.2.1.2.1 ef c.2.1.2.2, h.1.2.2⟩)
  · exact h
theorem k_setStation {σ : FD} {t a b f : Int} {xa xb xf : Int32} (h : fdOk σ) (ea : xa.toInt = a) (eb : xb.toInt = b) (ef : xf.toInt = f) : fdOk (s_setStation σ t a b f xa xb xf) := by
  unfold s_setStation
  split
  · rename_i c
    have hg := h.1.2.2 t.toNat (by omega)
    have hn : gaugeOk (newG σ t xa xb xf) σ.1.1.toInt := ⟨newG_ok ea c.2.1.1 eb c.2.1.2.1 ef c.2.1.2.2, hg.2⟩
    exact actF_ok h (setGF_ok h.1 (sfG_ok h.1.2.1 hn))
  · exact h
theorem k_setRate {σ : FD} {t b v : Int} {x : Int32} (h : fdOk σ) (ex : x.toInt = v) : fdOk (s_setRate σ t b v x) := by
  by_cases c : (0 ≤ t ∧ t < 3) ∧ (0 ≤ v ∧ v ≤ 20) ∧ ¬ (if b = 0 then ((σ.1.2.2 t.toNat).1 5).toInt else ((σ.1.2.2 t.toNat).1 6).toInt) = v
  · unfold s_setRate
    rw [if_pos c]
    have hv := c.2.1
    obtain ⟨g1, ⟨g2, g3, g4, g5⟩, g6⟩ := h.1.2.2 t.toNat (by omega)
    have hx : 0 ≤ x.toInt ∧ x.toInt ≤ 20 := by omega
    refine actF_ok h (setGF_ok h.1 ?_)
    split
    · exact ⟨g1, ⟨g2, g3, hx, g5⟩, g6⟩
    · exact ⟨g1, ⟨g2, g3, g4, hx⟩, g6⟩
  · unfold s_setRate
    rw [if_neg c]
    exact h
theorem k_turn {σ : FD} {t b : Int} {x : Int32} (h : fdOk σ) (ex : x.toInt = b) (hb : b = 0 ∨ b = 1) : fdOk (s_turn σ t b x) := by
  unfold s_turn
  split
  · rename_i c
    exact actF_ok h (setGF_ok h.1 (on_ok (h.1.2.2 t.toNat (by omega)) (by omega)))
  · exact h
theorem k_clean {σ : FD} {t : Int} (h : fdOk σ) : fdOk (s_clean σ t) := by
  unfold s_clean
  split
  · rename_i c
    obtain ⟨g1, ⟨g2, g3, g4⟩, g6⟩ := h.1.2.2 t.toNat (by omega)
    exact actF_ok h (setGF_ok h.1 ⟨g1, ⟨g2, (show 0 ≤ (0 : Int32).toInt ∧ (0 : Int32).toInt ≤ 90 from ⟨by decide, by decide⟩), g4⟩, g6⟩)
  · exact h
theorem k_level {σ : FD} {t : Int} (h : fdOk σ) : fdOk (s_level σ t) := by
  unfold s_level
  split
  · rename_i c
    exact actF_ok h (setGF_ok h.1 (ntG_ok rfl h.1.1 (h.1.2.2 t.toNat (by omega))))
  · exact h
theorem k_pass {σ : FD} {n : Int} (h : fdOk σ) : fdOk (s_pass σ n) := by
  unfold s_pass
  split
  · exact actF_ok h (passN_ok h.1 n.toNat (by omega)).1
  · exact h
theorem k_mend {σ : FD} {t k o f : Int} (h : fdOk σ) : fdOk (s_mend σ t k o f) := by
  by_cases c : ckZ σ t k o f = 0 ∧ rdP (σ.1.2.2 o.toNat) (ahZ (σ.1.2.2 t.toNat) k + f) (bhZ (σ.1.2.2 t.toNat) k + f)
  · unfold s_mend
    rw [itC_t c]
    obtain ⟨c1, c2⟩ := c
    obtain ⟨p1, p2, p3, p4, p5, p6⟩ := ckZ_0 c1
    have hok := h.1.1
    have hg := h.1.2.2 t.toNat (by omega)
    have ho := h.1.2.2 o.toNat (by omega)
    have hb := gp_b hg (by omega) p3
    refine actF_ok h (setGF_ok h.1 (mdG_ok (by omega) hg ho p6.1 p6.2 c2 ?_))
    unfold ahZ bhZ
    omega
  · unfold s_mend
    rw [itC_f c]
    exact h
