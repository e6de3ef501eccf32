/-! all stations; the acts -/
theorem allK_eq (τ : SD) (k : Int) : allK τ k = cntK (τ.2.2 0) k + cntK (τ.2.2 1) k + cntK (τ.2.2 2) k := by
  show ((0 + cntK (τ.2.2 0) k) + cntK (τ.2.2 1) k) + cntK (τ.2.2 2) k = _
  omega
abbrev sum3 (s : Nat → Int32) (k : Int) : Int := sumZ (fun h => cR s 0 (k + h)) 0 ((s (0 : Int).toNat).toInt).toNat + sumZ (fun h => cR s 1 (k + h)) 0 ((s (0 : Int).toNat).toInt).toNat + sumZ (fun h => cR s 2 (k + h)) 0 ((s (0 : Int).toNat).toInt).toNat
theorem Rs.all0 {τ : SD} {s : Nat → Int32} (h : Rs τ s) (hok : stOk τ) : sum3 s 129 = allK τ 0 := by
  rw [allK_eq]
  unfold sum3
  rw [h.sum0 hok (by omega), h.sum0 hok (by omega), h.sum0 hok (by omega)]
  rfl
theorem Rs.all2 {τ : SD} {s : Nat → Int32} (h : Rs τ s) (hok : stOk τ) : sum3 s 369 = allK τ 2 := by
  rw [allK_eq]
  unfold sum3
  rw [h.sum2 hok (by omega), h.sum2 hok (by omega), h.sum2 hok (by omega)]
  rfl
theorem all_n {τ : SD} (hok : stOk τ) : allK τ 0 + allK τ 1 + allK τ 2 = 3 * τ.1.toInt := by
  rw [allK_eq, allK_eq, allK_eq]
  have h0 := cntK_all (hok.2.2 0 (by omega)) hok.1
  have h1 := cntK_all (hok.2.2 1 (by omega)) hok.1
  have h2 := cntK_all (hok.2.2 2 (by omega)) hok.1
  omega
theorem cntK_b (d : GD) (k : Int) : 0 ≤ cntK d k ∧ cntK d k ≤ 120 := cntZ_b _ 120
theorem sumZ_b9 {c : Int → Int} {k n : Int} (hc : ∀ h : Int, 0 ≤ h → h < 120 → 0 ≤ c (k + h) ∧ c (k + h) ≤ 1) (hn : 0 ≤ n ∧ n ≤ 120) : 0 ≤ sumZ (fun h => c (k + h)) 0 n.toNat ∧ sumZ (fun h => c (k + h)) 0 n.toNat ≤ 120 := by
  have key : ∀ m : Nat, m ≤ 120 → 0 ≤ sumZ (fun h => c (k + h)) 0 m ∧ sumZ (fun h => c (k + h)) 0 m ≤ m := by
    intro m
    induction m with
    | zero => intro _; exact ⟨Int.le_refl _, Int.le_refl _⟩
    | succ m ih =>
      intro hm
      have h1 := ih (by omega)
      have h2 := hc (0 + (m : Int)) (by omega) (by omega)
      show 0 ≤ sumZ _ 0 m + c (k + (0 + (m : Int))) ∧ sumZ _ 0 m + c (k + (0 + (m : Int))) ≤ _
      omega
  have := key n.toNat (by omega)
  omega
theorem allK_b (τ : SD) (k : Int) : 0 ≤ allK τ k ∧ allK τ k ≤ 360 := by
  rw [allK_eq]
  have h0 := cntK_b (τ.2.2 0) k
  have h1 := cntK_b (τ.2.2 1) k
  have h2 := cntK_b (τ.2.2 2) k
  omega
