/-! what a walk over a gap's mending needs, in numbers alone -/
theorem MC.of {σ : FD} {t k o : Int} (hx : fdX σ) (ht : 0 ≤ t ∧ t < 3) (ho : 0 ≤ o ∧ o < 3) (hne : o ≠ t) (h0 : 0 ≤ k) (h1 : k < a_station σ t 10) : MC σ t k o :=
  ⟨hx, ht, ho, hne, h0, by rw [← (st_gaps ht).1]; exact h1⟩
theorem ME.pack {σ : FD} {t k o : Int} (h : ME σ t k o) : ∃ A E F ma mb : Int,
    (a_bestPhase σ t k o - 100 = F ∧ a_gap σ t k 0 - 1 = A ∧ a_gap σ t k 1 + 1 = E) ∧
    ((0 ≤ A ∧ A + 1 < E ∧ E ≤ 120) ∧ (-12 ≤ F ∧ F ≤ 12)) ∧
    (a_hour σ t A 1 - a_hour σ o (A + F) 1 = ma ∧ a_hour σ t E 1 - a_hour σ o (E + F) 1 = mb) ∧
    ((0 ≤ a_hour σ t A 1 ∧ a_hour σ t A 1 ≤ 200000) ∧ (0 ≤ a_hour σ o (A + F) 1 ∧ a_hour σ o (A + F) 1 ≤ 200000) ∧ (0 ≤ a_hour σ t E 1 ∧ a_hour σ t E 1 ≤ 200000) ∧ (0 ≤ a_hour σ o (E + F) 1 ∧ a_hour σ o (E + F) 1 ≤ 200000)) ∧
    (a_mend σ t k o F = E - A - 1 ∧ a_gap (s_mend σ t k o F) t k 3 = E - A - 1) ∧
    (fdX (s_mend σ t k o F) ∧ a_station σ t 11 ≤ a_station (s_mend σ t k o F) t 11) ∧
    ∀ i : Int, A < i → i < E → a_hour (s_mend σ t k o F) t i 4 = 2 ∧ a_hour (s_mend σ t k o F) t i 2 = a_hour (s_mend σ t k o F) o (i + F) 1 + ma + (mb - ma) * (i - A) / (E - A) ∧ (0 ≤ a_hour (s_mend σ t k o F) o (i + F) 1 ∧ a_hour (s_mend σ t k o F) o (i + F) 1 ≤ 200000) ∧ (0 ≤ a_hour (s_mend σ t k o F) t i 2 ∧ a_hour (s_mend σ t k o F) t i 2 ≤ 200000) := by
  have hp := h.pos
  have hb := h.ab
  exact ⟨ahZ (σ.1.2.2 t.toNat) k, bhZ (σ.1.2.2 t.toNat) k, bfZ σ t k o, mdE (σ.1.2.2 t.toNat) (σ.1.2.2 o.toNat) (ahZ (σ.1.2.2 t.toNat) k) (bfZ σ t k o), mdE (σ.1.2.2 t.toNat) (σ.1.2.2 o.toNat) (bhZ (σ.1.2.2 t.toNat) k) (bfZ σ t k o),
    ⟨rfl, hp.1⟩, ⟨⟨hp.2.1.1, hp.2.1.2.1, hb.2⟩, h.2.2.1⟩, h.ea.1, h.ea.2, ⟨h.am, h.g3⟩, ⟨kx_mend h.1.1, h.up⟩, fun i a b => h.hour ⟨a, b⟩⟩
