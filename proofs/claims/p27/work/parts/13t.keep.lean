/-! what holds of every state is kept -/
theorem shZ_in {w h a : Int} (hw : 0 ≤ w) (hh : 0 ≤ h ∧ h ≤ a) : 0 ≤ shZ w h a ∧ shZ w h a ≤ w := by
  unfold shZ
  split
  · omega
  · refine ⟨Int.ediv_nonneg (Int.mul_nonneg hw hh.1) (by omega), Int.ediv_le_of_le_mul (by omega) ?_⟩
    exact Int.mul_le_mul_of_nonneg_left hh.2 hw
theorem shZ_neg {w h a : Int} (hw : w ≤ 0) (hh : 0 ≤ h ∧ h ≤ a) : w ≤ shZ w h a ∧ shZ w h a ≤ 0 := by
  unfold shZ
  split
  · omega
  · have e : w * h ≤ 0 := Int.mul_nonpos_of_nonpos_of_nonneg hw hh.1
    refine ⟨Int.le_ediv_of_mul_le (by omega) ?_, ?_⟩
    · exact Int.mul_le_mul_of_nonpos_left (a := w) hw hh.2
    · exact Int.ediv_nonpos_of_nonpos_of_neg e (by omega)
theorem ntG_ok {d : GD} {n : Int} {x : Int32} (hx : x.toInt = n) (hn : 0 ≤ n ∧ n ≤ 120) (hd : gaugeOk d n) : gaugeOk (ntG d x) n := by
  obtain ⟨h1, ⟨h2, h3, h4, h5⟩, ⟨h6, h7⟩, ⟨h8, h9, h10⟩, h11, h12, h13, h14, h15⟩ := hd
  unfold ntG
  split
  · exact ⟨h1, ⟨h2, h3, h4, h5⟩, ⟨h6, h7⟩, ⟨h8, h9, h10⟩, h11, h12, h13, h14, h15⟩
  · rename_i hne
    have e9 : (Int32.ofInt ((d.1 9).toInt + 1)).toInt = (d.1 9).toInt + 1 := zi_ofI (by omega)
    refine ⟨h1, ⟨h2, h3, h4, h5⟩, ⟨h6, h7⟩, ⟨?_, ⟨h6.1, Int.le_refl _⟩, ?_⟩, h11, ?_, h13, h14, h15⟩
    · show 1 ≤ (Int32.ofInt ((d.1 9).toInt + 1)).toInt ∧ (Int32.ofInt ((d.1 9).toInt + 1)).toInt ≤ x.toInt + 1
      omega
    · show 0 ≤ x.toInt ∧ x.toInt ≤ n
      omega
    · intro j
      show 0 ≤ (ntC d x.toInt x.toInt j).toInt ∧ (ntC d x.toInt x.toInt j).toInt ≤ 120
      unfold ntC
      split
      · rename_i hj
        have hb := shZ_in (w := (d.1 7).toInt - (d.1 10).toInt) (h := (j : Int) - (d.1 11).toInt) (a := x.toInt - (d.1 11).toInt) (by omega) (by omega)
        rw [zi_ofI (by omega)]
        omega
      · exact h12 j
theorem kindsOk {d : GD} {n : Int} {K : Nat → Int32} (hd : gaugeOk d n) (h13 : ∀ j : Nat, (j : Int) < n → (K j).toInt = 0 ∨ (K j).toInt = 1 ∨ (K j).toInt = 2) (h14 : ∀ j : Nat, n ≤ (j : Int) → (K j).toInt = 3) (h15 : ∀ j, (K j).toInt = 0 → (d.2.1 j).toInt = 0) : gaugeOk (d.1, K, d.2.2) n :=
  ⟨hd.1, hd.2.1, hd.2.2.1, hd.2.2.2.1, hd.2.2.2.2.1, hd.2.2.2.2.2.1, h13, h14, fun j hj => hd.2.2.2.2.2.2.2.2 j (h15 j hj)⟩
theorem fgK_ok {d : GD} {n : Int} (hd : gaugeOk d n) : gaugeOk (d.1, fgK d 120, d.2.2) n := by
  have h13 := hd.2.2.2.2.2.2.1
  have h14 := hd.2.2.2.2.2.2.2.1
  refine kindsOk hd (fun j hj => ?_) (fun j hj => ?_) (fun j hj => ?_)
  · unfold fgK
    split
    · exact Or.inr (Or.inl rfl)
    · exact h13 j hj
  · unfold fgK
    have := h14 j hj
    rw [if_neg (by omega)]
    exact this
  · unfold fgK at hj
    split at hj
    · exact absurd hj (by decide)
    · exact hj
theorem kindZ_in {d : GD} {n h : Int} (hd : gaugeOk d n) (hn : n ≤ 120) (hk : kindZ d h = 0) : (0 ≤ h ∧ h < n) ∧ (d.2.1 h.toNat).toInt = 0 := by
  unfold kindZ rowZ at hk
  split at hk
  · refine ⟨?_, hk⟩
    have h14 := hd.2.2.2.2.2.2.2.1 h.toNat
    refine ⟨by omega, ?_⟩
    by_cases c : h < n
    · exact c
    · have := h14 (by omega)
      omega
  · omega
theorem cordZ_read {d : GD} {n h : Int} (hd : gaugeOk d n) (hn : n ≤ 120) (hk : kindZ d h = 0) : -20320 ≤ cordZ d h ∧ cordZ d h ≤ 20320 := by
  obtain ⟨h1, h2⟩ := kindZ_in hd hn hk
  have h3 := hd.2.2.2.2.2.2.2.2 h.toNat h2
  have h4 := hd.2.2.2.2.2.1 h.toNat
  unfold cordZ readZ corrZ rowZ
  rw [if_pos (by omega), if_pos (by omega)]
  omega
theorem mdG_ok {d o : GD} {a b f n : Int} (hn : n ≤ 120) (hd : gaugeOk d n) (ho : gaugeOk o n) (ha : kindZ d a = 0) (hb : kindZ d b = 0) (hr : rdP o (a + f) (b + f)) (hab : a < b) : gaugeOk (mdG d o a b f) n := by
  have ha1 := (kindZ_in hd hn ha).1
  have hb1 := (kindZ_in hd hn hb).1
  have c1 := cordZ_read hd hn ha
  have c2 := cordZ_read hd hn hb
  have c3 := cordZ_read ho hn (hr (a + f) (by omega) (by omega))
  have c4 := cordZ_read ho hn (hr (b + f) (by omega) (by omega))
  obtain ⟨h1, h2, h6, h8, h11, h12, h13, h14, h15⟩ := id hd
  refine ⟨h1, h2, h6, h8, ?_, h12, ?_, ?_, ?_⟩
  · intro j
    show -1000000 ≤ (mdV d o a b f b j).toInt ∧ (mdV d o a b f b j).toInt ≤ 1000000
    unfold mdV
    split
    · rename_i hj
      have c5 := cordZ_read ho hn (hr ((j : Int) + f) (by omega) (by omega))
      have c6 : -100000 ≤ mdZ d o a b f (j : Int) ∧ mdZ d o a b f (j : Int) ≤ 100000 := by
        unfold mdZ
        have e1 : -40640 ≤ mdE d o a f ∧ mdE d o a f ≤ 40640 := by unfold mdE; omega
        have e2 : -40640 ≤ mdE d o b f ∧ mdE d o b f ≤ 40640 := by unfold mdE; omega
        by_cases s : 0 ≤ mdE d o b f - mdE d o a f
        · have := shZ_in s (h := (j : Int) - a) (a := b - a) (by omega)
          omega
        · have := shZ_neg (w := mdE d o b f - mdE d o a f) (by omega) (h := (j : Int) - a) (a := b - a) (by omega)
          omega
      rw [zi_ofI (by omega)]
      omega
    · exact h11 j
  · intro j hj
    show (mdK d a b j).toInt = 0 ∨ (mdK d a b j).toInt = 1 ∨ (mdK d a b j).toInt = 2
    unfold mdK
    split
    · exact Or.inr (Or.inr rfl)
    · exact h13 j hj
  · intro j hj
    show (mdK d a b j).toInt = 3
    unfold mdK
    rw [if_neg (by omega)]
    exact h14 j hj
  · intro j hj
    have hj2 : (mdK d a b j).toInt = 0 := hj
    show -20200 ≤ (mdV d o a b f b j).toInt ∧ (mdV d o a b f b j).toInt ≤ 20200
    unfold mdK at hj2
    split at hj2
    · exact absurd hj2 (by decide)
    · rename_i hn2
      unfold mdV
      rw [if_neg hn2]
      exact h15 j hj2
theorem sfG_ok {W : Nat → Nat → Int32} {d : GD} {n : Int} (hw : ∀ i, i < 3 → waveOk (W i)) (hd : gaugeOk d n) : gaugeOk (sfG W d) n := by
  have hb := watZ_b hw hd.sta 0
  obtain ⟨h1, ⟨h2, h3⟩, h6⟩ := hd
  refine ⟨h1, ⟨?_, h3⟩, h6⟩
  show -20000 ≤ (Int32.ofInt (watZ W d 0)).toInt ∧ (Int32.ofInt (watZ W d 0)).toInt ≤ 20000
  rw [zi_ofI (by omega)]
  exact hb
theorem settle_ok {σ : SD} (h : stOk σ) : stOk (settle σ) := by
  refine ⟨h.1, h.2.1, fun i hi => ?_⟩
  show gaugeOk (sfN σ 3 i) _
  unfold sfN
  rw [if_pos (by omega)]
  exact sfG_ok h.2.1 (h.2.2 i hi)
theorem va_up_gauge {g : Nat → GD} {d : GD} {n : Int} (h : ∀ i, i < 3 → gaugeOk (g i) n) (hd : gaugeOk d n) (k : Nat) : ∀ i, i < 3 → gaugeOk (va_up g k d i) n := by
  intro i hi
  by_cases e : i = k
  · subst e
    rw [va_up_self]
    exact hd
  · rw [va_up_ne _ _ e]
    exact h i hi
theorem obG_ok {d : GD} {n k : Int} {x : Int32} (hx : x.toInt = n) (hn : 0 ≤ n ∧ n ≤ 120) (hd : gaugeOk d n) : gaugeOk (obG d x k) n := by
  have hd0 := hd
  obtain ⟨h1, ⟨h2, h3, h4⟩, ⟨h6, h7⟩, h8⟩ := hd
  unfold obG
  split
  · exact ⟨h1, ⟨h2, h3, h4⟩, ⟨h6, Or.inl rfl⟩, h8⟩
  · split
    · exact ⟨h1, ⟨h2, h3, h4⟩, ⟨h6, Or.inr rfl⟩, h8⟩
    · split
      · exact ⟨h1, ⟨h2, (show 0 ≤ (0 : Int32).toInt ∧ (0 : Int32).toInt ≤ 90 from ⟨by decide, by decide⟩), h4⟩, ⟨h6, h7⟩, h8⟩
      · exact ntG_ok hx hn hd0
theorem obS_ok {σ : SD} {k v : Int} (h : stOk σ) (hv : k = 112 → 0 ≤ v ∧ σ.1.toInt + v ≤ 120) : stOk (obS σ k v) ∧ (obS σ k v).1.toInt = σ.1.toInt + if k = 112 then v else 0 := by
  unfold obS
  by_cases c : k = 112
  · rw [if_pos c, if_pos c]
    have hv := hv c
    have := passN_ok h v.toNat (by omega)
    refine ⟨this.1, by omega⟩
  · rw [if_neg c, if_neg c]
    refine ⟨⟨h.1, h.2.1, ?_⟩, by show σ.1.toInt = _; omega⟩
    by_cases e : v.toNat < 3
    · exact va_up_gauge h.2.2 (obG_ok rfl h.1 (h.2.2 _ e)) v.toNat
    · intro i hi
      show gaugeOk (va_up σ.2.2 v.toNat _ i) _
      rw [va_up_ne _ _ (by omega)]
      exact h.2.2 i hi
theorem nthZ_0 {q : Nat → Prop} [DecidablePred q] {n : Nat} (h : nthZ q 0 n = -1) : cntZ q n = 0 := by
  induction n with
  | zero => rfl
  | succ n ih =>
    have h1 : (if nthZ q 0 n = -1 then (if q n ∧ cntZ q n = 0 then (n : Int) else -1) else nthZ q 0 n) = -1 := h
    show cntZ q n + (if q n then 1 else 0) = 0
    by_cases c : nthZ q 0 n = -1
    · have h2 := ih c
      rw [if_pos c] at h1
      by_cases c2 : q n
      · rw [if_pos ⟨c2, h2⟩] at h1
        omega
      · rw [if_neg c2]
        omega
    · rw [if_neg c] at h1
      exact absurd h1 c
theorem cntZ_no {q : Nat → Prop} [DecidablePred q] {n j : Nat} (h : cntZ q n = 0) (hj : j < n) : ¬ q j := by
  intro c
  have h1 := cntZ_mono q (show j + 1 ≤ n by omega)
  have h2 := (cntZ_b q j).1
  have h3 : cntZ q (j + 1) = cntZ q j + 1 := by
    show cntZ q j + (if q j then 1 else 0) = _
    rw [if_pos c]
  omega
