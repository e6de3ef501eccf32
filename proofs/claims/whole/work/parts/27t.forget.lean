/-! what is mended is forgotten -/
def Fg (c0 c : Int → Int) (i : Int) : Prop := (∀ v : Int, 0 ≤ v → v < 731 → ¬ (369 ≤ v ∧ v < 369 + i) → ¬ (249 ≤ v ∧ v < 249 + i) → c v = c0 v) ∧ ∀ j : Int, 0 ≤ j → j < i → c (369 + j) = 0
theorem Fg.zero {s : Nat → Int32} {t : Int} : sameBut s s t ∧ Fg (fun w => cR s t w) (fun w => cR s t w) 0 := ⟨sameBut.rf, fun _ _ _ _ _ => rfl, fun j a b => by omega⟩
theorem Fg.step {s0 s : Nat → Int32} {t i : Int} (h : sameBut s0 s t ∧ Fg (fun w => cR s0 t w) (fun w => cR s t w) i) (ht : 0 ≤ t ∧ t < 3) (hi : 0 ≤ i ∧ i < 120) : sameBut s0 (upd (upd s (10 + 731 * t + (369 + i)).toNat 0) (10 + 731 * t + (249 + i)).toNat 0) t ∧ Fg (fun w => cR s0 t w) (fun w => cR (upd (upd s (10 + 731 * t + (369 + i)).toNat 0) (10 + 731 * t + (249 + i)).toNat 0) t w) (i + 1) := by
  refine ⟨(h.1.up ht (by omega)).up ht (by omega), fun v a b c d => ?_, fun j a b => ?_⟩
  · show cR _ _ _ = _
    rw [cR_ne ht ht (by omega) (by omega) (by omega), cR_ne ht ht (by omega) (by omega) (by omega)]
    exact h.2.1 v a b (by omega) (by omega)
  · show cR _ _ _ = _
    rw [cR_ne ht ht (by omega) (by omega) (by omega)]
    by_cases e : j = i
    · rw [e, cR_at]
      rfl
    · rw [cR_ne ht ht (by omega) (by omega) (by omega)]
      exact h.2.2 j a (by omega)
theorem Rg.forget {c0 c : Int → Int} {d : GD} {n : Int} {K : Nat → Int32} (h : Rg c0 d n) (hd : gaugeOk d n) (hn : 0 ≤ n ∧ n ≤ 120) (hf : Fg c0 c 120) (hK : ∀ j : Nat, j < 120 → (K j).toInt = if (d.2.1 j).toInt = 2 then 1 else (d.2.1 j).toInt) : Rg c (d.1, K, d.2.2) n := by
  have hL := hd.2.2.2.1.2.2
  refine ⟨fun k a b => (hf.1 k a (by omega) (by omega) (by omega)).trans (h.1 k a b), fun i a b => ?_, h.2.2.congr (fun w a b => hf.1 w (by omega) b (by omega) (by omega)) (by omega)⟩
  obtain ⟨q1, q2, q3, q4⟩ := h.2.1 i a b
  have ek : kindZ (d.1, K, d.2.2) i = if kindZ d i = 2 then 1 else kindZ d i := by
    have e0 : kindZ d i = (d.2.1 i.toNat).toInt := by
      unfold kindZ rowZ
      rw [if_pos (by omega)]
    have e1 : kindZ (d.1, K, d.2.2) i = (K i.toNat).toInt := by
      unfold kindZ rowZ
      rw [if_pos (by omega)]
    rw [e0, e1]
    exact hK i.toNat (by omega)
  have er : readZ (d.1, K, d.2.2) i = readZ d i := rfl
  rw [ek, er, hf.1 (129 + i) (by omega) (by omega) (by omega) (by omega), hf.2 i a b, hf.1 (9 + i) (by omega) (by omega) (by omega) (by omega)]
  by_cases c2 : kindZ d i = 2
  · rw [if_pos c2]
    rw [c2] at q1
    exact ⟨q1, rfl, fun z => absurd z (by decide), fun z => absurd z (by decide)⟩
  · rw [if_neg c2]
    exact ⟨q1, (if_neg c2).symm, q3, fun z => absurd z c2⟩
theorem Rs.forget {σ : FD} {s s' : Nat → Int32} {t : Int} (h : Rs σ.1 s) (hok : stOk σ.1) (ht : 0 ≤ t ∧ t < 3) (hf : sameBut s s' t ∧ Fg (fun w => cR s t w) (fun w => cR s' t w) 120) : Rs (setGF σ t ((σ.1.2.2 t.toNat).1, fgK (σ.1.2.2 t.toNat) 120, (σ.1.2.2 t.toNat).2.2)) s' := by
  refine h.gset hok ht hf.1 ((h.g ht).forget (hok.2.2 t.toNat (by omega)) hok.1 hf.2 (fun j hj => ?_))
  unfold fgK
  by_cases c : ((σ.1.2.2 t.toNat).2.1 j).toInt = 2
  · rw [if_pos (by omega), if_pos c]
    rfl
  · rw [if_neg (by omega), if_neg c]
