/-! sums over a station's hours -/
theorem sum_cnt {c : Int → Int} {q : Nat → Prop} [DecidablePred q] {n : Nat} (h : ∀ j : Nat, j < n → c (j : Int) = if q j then 1 else 0) : sumZ c 0 n = cntZ q n := by
  induction n with
  | zero => rfl
  | succ n ih =>
    show sumZ c 0 n + c (0 + (n : Int)) = cntZ q n + (if q n then 1 else 0)
    rw [ih (fun j hj => h j (by omega)), Int.zero_add, h n (by omega)]
theorem kindZ_nat {d : GD} {j : Nat} (h : j < 120) : kindZ d (j : Int) = (d.2.1 j).toInt := by
  unfold kindZ rowZ
  rw [if_pos (by omega)]
  rfl
theorem cntK_n {d : GD} {n k : Int} (hd : gaugeOk d n) (hn : 0 ≤ n ∧ n ≤ 120) (hk : k ≠ 3) : cntZ (fun j => (d.2.1 j).toInt = k) n.toNat = cntK d k := by
  unfold cntK
  refine (cntZ_tail (by omega) (fun j a b => ?_)).symm
  have := hd.2.2.2.2.2.2.2.1 j (by omega)
  omega
theorem cntK_all {d : GD} {n : Int} (hd : gaugeOk d n) (hn : 0 ≤ n ∧ n ≤ 120) : cntK d 0 + cntK d 1 + cntK d 2 = n := by
  rw [← cntK_n hd hn (by omega : (0 : Int) ≠ 3), ← cntK_n hd hn (by omega : (1 : Int) ≠ 3), ← cntK_n hd hn (by omega : (2 : Int) ≠ 3)]
  have key : ∀ m : Nat, (m : Int) ≤ n → cntZ (fun j => (d.2.1 j).toInt = 0) m + cntZ (fun j => (d.2.1 j).toInt = 1) m + cntZ (fun j => (d.2.1 j).toInt = 2) m = m := by
    intro m
    induction m with
    | zero => intro _; rfl
    | succ m ih =>
      intro hm
      have h1 := ih (by omega)
      have h2 := hd.2.2.2.2.2.2.1 m (by omega)
      show (cntZ _ m + (if (d.2.1 m).toInt = 0 then 1 else 0)) + (cntZ _ m + (if (d.2.1 m).toInt = 1 then 1 else 0)) + (cntZ _ m + (if (d.2.1 m).toInt = 2 then 1 else 0)) = _
      (repeat' split) <;> omega
  have := key n.toNat (by omega)
  omega
theorem Rs.sum0 {τ : SD} {s : Nat → Int32} {t : Int} (h : Rs τ s) (hok : stOk τ) (ht : 0 ≤ t ∧ t < 3) : sumZ (fun h => cR s t (129 + h)) 0 ((s (0 : Int).toNat).toInt).toNat = cntK (τ.2.2 t.toNat) 0 := by
  have hn := hok.1
  have hg := hok.2.2 t.toNat (by omega)
  rw [h.1, ← cntK_n hg hn (by omega : (0 : Int) ≠ 3)]
  refine sum_cnt (fun j hj => ?_)
  rw [(h.rd ht (i := (j : Int)) (by omega)).1]
  rw [kindZ_nat (by omega)]
theorem Rs.sum2 {τ : SD} {s : Nat → Int32} {t : Int} (h : Rs τ s) (hok : stOk τ) (ht : 0 ≤ t ∧ t < 3) : sumZ (fun h => cR s t (369 + h)) 0 ((s (0 : Int).toNat).toInt).toNat = cntK (τ.2.2 t.toNat) 2 := by
  have hn := hok.1
  have hg := hok.2.2 t.toNat (by omega)
  rw [h.1, ← cntK_n hg hn (by omega : (2 : Int) ≠ 3)]
  refine sum_cnt (fun j hj => ?_)
  rw [(h.rd ht (i := (j : Int)) (by omega)).2.1]
  rw [kindZ_nat (by omega)]
theorem Rs.sum6 {τ : SD} {s : Nat → Int32} {t : Int} (h : Rs τ s) (hok : stOk τ) (ht : 0 ≤ t ∧ t < 3) : sumZ (fun h => cR s t (610 + h)) 0 ((s (0 : Int).toNat).toInt).toNat + cR s t (610 + (s (0 : Int).toNat).toInt) = ((τ.2.2 t.toNat).1 9).toInt := by
  have hn := hok.1
  have hL := (hok.2.2 t.toNat (by omega)).2.2.2.1.2.2
  have hr := (h.n ht).1
  have e9 := hr.2.2.2.2.2
  have e4 := hr.2.2.2.1
  rw [h.1, e9]
  rw [show 121 = (τ.1.toInt.toNat + 1) + (120 - τ.1.toInt.toNat) by omega, sumZ_add]
  have ez : sumZ (fun h => cR s t (610 + h)) (0 + ((τ.1.toInt.toNat + 1 : Nat) : Int)) (120 - τ.1.toInt.toNat) = 0 := sumZ_zero (fun i a b => e4 i (by omega) (by omega))
  rw [ez, Int.add_zero]
  show _ = sumZ (fun h => cR s t (610 + h)) 0 τ.1.toInt.toNat + cR s t (610 + (0 + ((τ.1.toInt.toNat : Nat) : Int)))
  rw [show 0 + ((τ.1.toInt.toNat : Nat) : Int) = τ.1.toInt by omega]
theorem Rs.b0 {τ : SD} {s : Nat → Int32} {t : Int} (h : Rs τ s) (ht : 0 ≤ t ∧ t < 3) : ∀ i : Int, 0 ≤ i → i < 120 → 0 ≤ cR s t (129 + i) ∧ cR s t (129 + i) ≤ 1 := by
  intro i a b
  rw [(h.rd ht ⟨a, b⟩).1]
  split <;> omega
theorem Rs.b2 {τ : SD} {s : Nat → Int32} {t : Int} (h : Rs τ s) (ht : 0 ≤ t ∧ t < 3) : ∀ i : Int, 0 ≤ i → i < 120 → 0 ≤ cR s t (369 + i) ∧ cR s t (369 + i) ≤ 1 := by
  intro i a b
  rw [(h.rd ht ⟨a, b⟩).2.1]
  split <;> omega
theorem Rs.b6 {τ : SD} {s : Nat → Int32} {t : Int} (h : Rs τ s) (ht : 0 ≤ t ∧ t < 3) : ∀ i : Int, 0 ≤ i → i < 120 → 0 ≤ cR s t (610 + i) ∧ cR s t (610 + i) ≤ 1 := by
  intro i a b
  have := (h.n ht).1.1 i a (by omega)
  have e : (fun w => cR s t w) (610 + i) = cR s t (610 + i) := rfl
  rw [e] at this
  omega
theorem nthZ_tail {q : Nat → Prop} [DecidablePred q] {k : Int} {a b : Nat} (hab : a ≤ b) (h : ∀ j, a ≤ j → j < b → ¬ q j) : nthZ q k b = nthZ q k a := by
  induction b with
  | zero => rw [show a = 0 by omega]
  | succ b ih =>
    rcases Nat.lt_or_ge a (b + 1) with g | g
    · rw [← ih (by omega) (fun j x y => h j x (by omega))]
      show (if nthZ q k b = -1 then (if q b ∧ cntZ q b = k then (b : Int) else -1) else nthZ q k b) = _
      rw [if_neg (c := q b ∧ cntZ q b = k) (fun w => h b (by omega) (by omega) w.1)]
      by_cases c : nthZ q k b = -1
      · rw [if_pos c, c]
      · rw [if_neg c]
    · rw [show a = b + 1 by omega]
theorem hgZ_n {d : GD} {n i k : Int} (hd : gaugeOk d n) (hn : n ≤ 120) (hi : 1 ≤ i ∧ n ≤ i + 1 ∧ i ≤ 119) (h : nthZ (fun j => hiP d (j : Int)) k i.toNat = -1) : hgZ d k = -1 := by
  unfold hgZ
  rw [nthZ_tail (a := i.toNat) (by omega) (fun j a b q => ?_)]
  · exact h
  · have e := kind_out (h := (j : Int) + 1) hd hn (by omega)
    have q2 := q.2.2.1
    unfold hvP at q2
    omega
theorem g23 {d : GD} {n w : Int} (h : gaugeOk d n) (hw : w = 2 ∨ w = 3) : -20000 ≤ (d.1 w.toNat).toInt ∧ (d.1 w.toNat).toInt ≤ 20000 := by
  have h1 := h.1
  have h2 := h.2.1
  rcases hw with q | q <;> subst q
  · show -20000 ≤ (d.1 2).toInt ∧ (d.1 2).toInt ≤ 20000
    omega
  · show -20000 ≤ (d.1 3).toInt ∧ (d.1 3).toInt ≤ 20000
    omega
theorem ahr {σ : FD} {t h w : Int} (h1 : 0 ≤ t ∧ t < 3) (h2 : 0 ≤ h) (h3 : 0 ≤ w ∧ w ≤ 4) (h4 : h < σ.1.1.toInt) : a_hour σ t h w = hrW (σ.1.2.2 t.toNat) h w := by
  unfold a_hour
  rw [if_neg (by omega), if_neg (by omega), if_neg (by omega)]
theorem hrW_4 {d : GD} {h w : Int} (hw : 3 < w) : hrW d h w = kindZ d h := by
  unfold hrW
  rw [if_neg (by omega), if_neg (by omega), if_neg (by omega), if_neg (by omega)]
