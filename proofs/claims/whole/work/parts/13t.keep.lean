/-! what holds of every state is kept -/
theorem shZ_in {w h a : Int} (hw : 0 ≤ w) (hh : 0 ≤ h ∧ h ≤ a) : 0 ≤ shZ w h a ∧ shZ w h a ≤ w := by
  unfold shZ
  split
  · omega
  · refine ⟨Int.ediv_nonneg (Int.mul_nonneg hw hh.1) (by omega), Int.ediv_le_of_le_mul (by omega) ?_⟩
    exact Int.mul_le_mul_of_nonneg_left hh.2 hw
theorem shZ_neg {w h a : Int} (hw : w ≤ 0) (hh : 0 ≤ h ∧ h ≤ a) : w ≤ shZ w h a ∧ shZ w h a ≤ 0 := by
  unfold shZ
  split
  · omega
  · have e : w * h ≤ 0 := Int.mul_nonpos_of_nonpos_of_nonneg hw hh.1
    refine ⟨Int.le_ediv_of_mul_le (by omega) ?_, ?_⟩
    · exact Int.mul_le_mul_of_nonpos_left (a := w) hw hh.2
    · exact Int.ediv_nonpos_of_nonpos_of_neg e (by omega)
theorem ntG_ok {d : GD} {n : Int} {x : Int32} (hx : x.toInt = n) (hn : 0 ≤ n ∧ n ≤ 120) (hd : gaugeOk d n) : gaugeOk (ntG d x) n := by
  obtain ⟨h1, ⟨h2, h3, h4, h5⟩, ⟨h6, h7⟩, ⟨h8, h9, h10⟩, h11, h12, h13, h14, h15⟩ := hd
  unfold ntG
  split
  · exact ⟨h1, ⟨h2, h3, h4, h5⟩, ⟨h6, h7⟩, ⟨h8, h9, h10⟩, h11, h12, h13, h14, h15⟩
  · rename_i hne
    have e9 : (Int32.ofInt ((d.1 9).toInt + 1)).toInt = (d.1 9).toInt + 1 := zi_ofI (by omega)
    refine ⟨h1, ⟨h2, h3, h4, h5⟩, ⟨h6, h7⟩, ⟨?_, ⟨h6.1, Int.le_refl _⟩, ?_⟩, h11, ?_, h13, h14, h15⟩
    · show 1 ≤ (Int32.ofInt ((d.1 9).toInt + 1)).toInt ∧ (Int32.ofInt ((d.1 9).toInt + 1)).toInt ≤ x.toInt + 1
      omega
    · show 0 ≤ x.toInt ∧ x.toInt ≤ n
      omega
    · intro j
      show 0 ≤ (ntC d x.toInt x.toInt j).toInt ∧ (ntC d x.toInt x.toInt j).toInt ≤ 120
      unfold ntC
      split
      · rename_i hj
        have hb := shZ_in (w := (d.1 7).toInt - (d.1 10).toInt) (h := (j : Int) - (d.1 11).toInt) (a := x.toInt - (d.1 11).toInt) (by omega) (by omega)
        rw [zi_ofI (by omega)]
        omega
      · exact h12 j
theorem kindsOk {d : GD} {n : Int} {K : Nat → Int32} (hd : gaugeOk d n) (h13 : ∀ j : Nat, (j : Int) < n → (K j).toInt = 0 ∨ (K j).toInt = 1 ∨ (K j).toInt = 2) (h14 : ∀ j : Nat, n ≤ (j : Int) → (K j).toInt = 3) (h15 : ∀ j, (K j).toInt = 0 → (d.2.1 j).toInt = 0) : gaugeOk (d.1, K, d.2.2) n :=
  ⟨hd.1, hd.2.1, hd.2.2.1, hd.2.2.2.1, hd.2.2.2.2.1, hd.2.2.2.2.2.1, h13, h14, fun j hj => hd.2.2.2.2.2.2.2.2 j (h15 j hj)⟩
theorem fgK_ok {d : GD} {n : Int} (hd : gaugeOk d n) : gaugeOk (d.1, fgK d 120, d.2.2) n := by
  have h13 := hd.2.2.2.2.2.2.1
  have h14 := hd.2.2.2.2.2.2.2.1
  refine kindsOk hd (fun j hj => ?_) (fun j hj => ?_) (fun j hj => ?_)
  · unfold fgK
    split
    · exact Or.inr (Or.inl rfl)
    · exact h13 j hj
  · unfold fgK
    have := h14 j hj
    rw [if_neg (by omega)]
    exact this
  · unfold fgK at hj
    split at hj
    · exact absurd hj (by decide)
    · exact hj
theorem kindZ_in {d : GD} {n h : Int} (hd : gaugeOk d n) (hn : n ≤ 120) (hk : kindZ d h = 0) : (0 ≤ h ∧ h < n) ∧ (d.2.1 h.toNat).toInt = 0 := by
  unfold kindZ rowZ at hk
  split at hk
  · refine ⟨?_, hk⟩
    have h14 := hd.2.2.2.2.2.2.2.1 h.toNat
    refine ⟨by omega, ?_⟩
    by_cases c : h < n
    · exact c
    · have := h14 (by omega)
      omega
  · omega
theorem cordZ_read {d : GD} {n h : Int} (hd : gaugeOk d n) (hn : n ≤ 120) (hk : kindZ d h = 0) : -20320 ≤ cordZ d h ∧ cordZ d h ≤ 20320 := by
  obtain ⟨h1, h2⟩ := kindZ_in hd hn hk
  have h3 := hd.2.2.2.2.2.2.2.2 h.toNat h2
  have h4 := hd.2.2.2.2.2.1 h.toNat
  unfold cordZ readZ corrZ rowZ
  rw [if_pos (by omega), if_pos (by omega)]
  omega
theorem mdG_ok {d o : GD} {a b f n : Int} (hn : n ≤ 120) (hd : gaugeOk d n) (ho : gaugeOk o n) (ha : kindZ d a = 0) (hb : kindZ d b = 0) (hr : rdP o (a + f) (b + f)) (hab : a < b) : gaugeOk (mdG d o a b f) n := by
  have ha1 := (kindZ_in hd hn ha).1
  have hb1 := (kindZ_in hd hn hb).1
  have c1 := cordZ_read hd hn ha
  have c2 := cordZ_read hd hn hb
  have c3 := cordZ_read ho hn (hr (a + f) (by omega) (by omega))
  have c4 := cordZ_read ho hn (hr (b + f) (by omega) (by omega))
  obtain ⟨h1, h2, h6, h8, h11, h12, h13, h14, h15⟩ := id hd
  refine ⟨h1, h2, h6, h8, ?_, h12, ?_, ?_, ?_⟩
  · intro j
    show -1000000 ≤ (mdV d o a b f b j).toInt ∧ (mdV d o a b f b j).toInt ≤ 1000000
    unfold mdV
    split
    · rename_i hj
      have c5 := cordZ_read ho hn (hr ((j : Int) + f) (by omega) (by omega))
      have c6 : -100000 ≤ mdZ d o a b f (j : Int) ∧ mdZ d o a b f (j : Int) ≤ 100000 := by
        unfold mdZ
        have e1 : -40640 ≤ mdE d o a f ∧ mdE d o a f ≤ 40640 := by unfold mdE; omega
        have e2 : -40640 ≤ mdE d o b f ∧ mdE d o b f ≤ 40640 := by unfold mdE; omega
        by_cases s : 0 ≤ mdE d o b f - mdE d o a f
        · have := shZ_in s (h := (j : Int) - a) (a := b - a) (by omega)
          omega
        · have := shZ_neg (w := mdE d o b f - mdE d o a f) (by omega) (h := (j : Int) - a) (a := b - a) (by omega)
          omega
      rw [zi_ofI (by omega)]
      omega
    · exact h11 j
  · intro j hj
    show (mdK d a b j).toInt = 0 ∨ (mdK d a b j).toInt = 1 ∨ (mdK d a b j).toInt = 2
    unfold mdK
    split
    · exact Or.inr (Or.inr rfl)
    · exact h13 j hj
  · intro j hj
    show (mdK d a b j).toInt = 3
    unfold mdK
    rw [if_neg (by omega)]
    exact h14 j hj
  · intro j hj
    have hj2 : (mdK d a b j).toInt = 0 := hj
    show -20200 ≤ (mdV d o a b f b j).toInt ∧ (mdV d o a b f b j).toInt ≤ 20200
    unfold mdK at hj2
    split at hj2
    · exact absurd hj2 (by decide)
    · rename_i hn2
      unfold mdV
      rw [if_neg hn2]
      exact h15 j hj2
theorem sfG_ok {W : Nat → Nat → Int32} {d : GD} {n : Int} (hw : ∀ i, i < 3 → waveOk (W i)) (hd : gaugeOk d n) : gaugeOk (sfG W d) n := by
  have hb := watZ_b hw hd.sta 0
  obtain ⟨h1, ⟨h2, h3⟩, h6⟩ := hd
  refine ⟨h1, ⟨?_, h3⟩, h6⟩
  show -20000 ≤ (Int32.ofInt (watZ W d 0)).toInt ∧ (Int32.ofInt (watZ W d 0)).toInt ≤ 20000
  rw [zi_ofI (by omega)]
  exact hb
theorem settle_ok {σ : SD} (h : stOk σ) : stOk (settle σ) := by
  refine ⟨h.1, h.2.1, fun i hi => ?_⟩
  show gaugeOk (sfN σ 3 i) _
  unfold sfN
  rw [if_pos (by omega)]
  exact sfG_ok h.2.1 (h.2.2 i hi)
theorem va_up_gauge {g : Nat → GD} {d : GD} {n : Int} (h : ∀ i, i < 3 → gaugeOk (g i) n) (hd : gaugeOk d n) (k : Nat) : ∀ i, i < 3 → gaugeOk (va_up g k d i) n := by
  intro i hi
  by_cases e : i = k
  · subst e
    rw [va_up_self]
    exact hd
  · rw [va_up_ne _ _ e]
    exact h i hi
theorem obG_ok {d : GD} {n k : Int} {x : Int32} (hx : x.toInt = n) (hn : 0 ≤ n ∧ n ≤ 120) (hd : gaugeOk d n) : gaugeOk (obG d x k) n := by
  have hd0 := hd
  obtain ⟨h1, ⟨h2, h3, h4⟩, ⟨h6, h7⟩, h8⟩ := hd
  unfold obG
  split
  · exact ⟨h1, ⟨h2, h3, h4⟩, ⟨h6, Or.inl rfl⟩, h8⟩
  · split
    · exact ⟨h1, ⟨h2, h3, h4⟩, ⟨h6, Or.inr rfl⟩, h8⟩
    · split
      · exact ⟨h1, ⟨h2, (show 0 ≤ (0 : Int32).toInt ∧ (0 : Int32).toInt ≤ 90 from ⟨by decide, by decide⟩), h4⟩, ⟨h6, h7⟩, h8⟩
      · exact ntG_ok hx hn hd0
theorem obS_ok {σ : SD} {k v : Int} (h : stOk σ) (hv : k = 112 → 0 ≤ v ∧ σ.1.toInt + v ≤ 120) : stOk (obS σ k v) ∧ (obS σ k v).1.toInt = σ.1.toInt + if k = 112 then v else 0 := by
  unfold obS
  by_cases c : k = 112
  · rw [if_pos c, if_pos c]
    have hv := hv c
    have := passN_ok h v.toNat (by omega)
    refine ⟨this.1, by omega⟩
  · rw [if_neg c, if_neg c]
    refine ⟨⟨h.1, h.2.1, ?_⟩, by show σ.1.toInt = _; omega⟩
    by_cases e : v.toNat < 3
    · exact va_up_gauge h.2.2 (obG_ok rfl h.1 (h.2.2 _ e)) v.toNat
    · intro i hi
      show gaugeOk (va_up σ.2.2 v.toNat _ i) _
      rw [va_up_ne _ _ (by omega)]
      exact h.2.2 i hi
/-! the texts that follow takes -/
abbrev stP (t : TD) (i : Int) : Prop := chZ t i = 112 ∨ slP (chZ t i)
theorem dbZ_let {due c : Int} (h : c = 112 ∨ slP c) (hd : dbZ due c ≠ 5) : due = 0 := by
  unfold dbZ dboZ at hd
  by_cases h0 : due = 0
  · exact h0
  · rw [if_neg h0] at hd
    exfalso
    split at hd
    · rw [if_neg (by omega)] at hd
      exact hd rfl
    · split at hd
      · rw [if_neg (by omega), if_neg (by omega)] at hd
        exact hd rfl
      · split at hd
        · rw [if_neg (by omega)] at hd
          exact hd rfl
        · split at hd
          · rw [if_neg (by omega)] at hd
            exact hd rfl
          · exact hd rfl
theorem nthZ_0 {q : Nat → Prop} [DecidablePred q] {n : Nat} (h : nthZ q 0 n = -1) : cntZ q n = 0 := by
  induction n with
  | zero => rfl
  | succ n ih =>
    have h1 : (if nthZ q 0 n = -1 then (if q n ∧ cntZ q n = 0 then (n : Int) else -1) else nthZ q 0 n) = -1 := h
    show cntZ q n + (if q n then 1 else 0) = 0
    by_cases c : nthZ q 0 n = -1
    · have h2 := ih c
      rw [if_pos c] at h1
      by_cases c2 : q n
      · rw [if_pos ⟨c2, h2⟩] at h1
        omega
      · rw [if_neg c2]
        omega
    · rw [if_neg c] at h1
      exact absurd h1 c
theorem cntZ_no {q : Nat → Prop} [DecidablePred q] {n j : Nat} (h : cntZ q n = 0) (hj : j < n) : ¬ q j := by
  intro c
  have h1 := cntZ_mono q (show j + 1 ≤ n by omega)
  have h2 := (cntZ_b q j).1
  have h3 : cntZ q (j + 1) = cntZ q j + 1 := by
    show cntZ q j + (if q j then 1 else 0) = _
    rw [if_pos c]
  omega
def fitT (t : TD) : Prop := (∀ i : Int, 0 ≤ i → i ≤ t.1.toInt → dueN t i.toNat ≠ 5) ∧ (dueN t t.1.toInt.toNat = 4 ∨ dueN t t.1.toInt.toNat = 2)
theorem fitT_of {t : TD} (ht : textOk t) (h : ftZ t = -1) : fitT t := by
  have hl := ht.1
  unfold ftZ at h
  by_cases c : ftB t = -1
  · rw [if_neg (fun q => q c)] at h
    have c0 := nthZ_0 c
    refine ⟨fun i h0 h1 => ?_, ?_⟩
    · by_cases e : i = 0
      · subst e
        show (0 : Int) ≠ 5
        omega
      · have := cntZ_no c0 (j := (i - 1).toNat) (by omega)
        rw [show (((i - 1).toNat : Nat) : Int) + 1 = i by omega] at this
        exact this
    · by_cases c2 : dueN t t.1.toInt.toNat = 4 ∨ dueN t t.1.toInt.toNat = 2
      · exact c2
      · rw [if_neg c2] at h
        omega
  · rw [if_pos c] at h
    exact absurd h c
theorem chZ_in {t : TD} {i : Int} (h : chZ t i ≠ 0) : 0 ≤ i ∧ i < t.1.toInt ∧ i < 60 := by
  unfold chZ at h
  split at h
  · assumption
  · exact absurd rfl h
theorem fitT.step {t : TD} (h : fitT t) {i : Int} (h0 : 0 ≤ i) (h1 : i < t.1.toInt) : dbZ (dueN t i.toNat) (chZ t i) ≠ 5 := by
  rw [← dueN_s t h0]
  exact h.1 (i + 1) (by omega) (by omega)
theorem fitT.due {t : TD} (h : fitT t) {i : Int} (h0 : 0 ≤ i) (h1 : i ≤ t.1.toInt) (hd : dueN t i.toNat ≠ 4 ∧ dueN t i.toNat ≠ 2) : i < t.1.toInt := by
  rcases Int.lt_or_eq_of_le h1 with c | c
  · exact c
  · rw [c] at hd
    exact absurd h.2 (fun q => by omega)
/-- the hours of an order -/
theorem fitT.p {t : TD} (h : fitT t) {i : Int} (hc : chZ t i = 112) : (0 ≤ i ∧ i + 1 < t.1.toInt) ∧ dueN t i.toNat = 0 ∧ (49 ≤ chZ t (i + 1) ∧ chZ t (i + 1) ≤ 57) ∧ dueN t (i + 2).toNat = 2 ∧ ¬ (i + 1 + 2 < t.1.toInt ∧ dgP (chZ t (i + 1 + 2))) := by
  have hi := chZ_in (t := t) (i := i) (by omega)
  have d0 := dbZ_let (Or.inl hc) (h.step hi.1 hi.2.1)
  have d1 : dueN t (i + 1).toNat = 1 := by
    rw [dueN_s t hi.1, d0, hc]
    rfl
  have l1 := h.due (i := i + 1) (by omega) (by omega) (by omega)
  have s1 := h.step (i := i + 1) (by omega) l1
  rw [d1] at s1
  have s2 : (if 49 ≤ chZ t (i + 1) ∧ chZ t (i + 1) ≤ 57 then (2 : Int) else 5) ≠ 5 := s1
  have c1 : 49 ≤ chZ t (i + 1) ∧ chZ t (i + 1) ≤ 57 := by
    by_cases c : 49 ≤ chZ t (i + 1) ∧ chZ t (i + 1) ≤ 57
    · exact c
    · rw [if_neg c] at s2
      exact absurd rfl s2
  have d2 : dueN t (i + 2).toNat = 2 := by
    rw [show i + 2 = i + 1 + 1 by omega, dueN_s t (by omega), d1]
    exact if_pos c1
  refine ⟨⟨hi.1, l1⟩, d0, c1, d2, fun q => ?_⟩
  have s3 := h.step (i := i + 2) (by omega) (by omega)
  have s4 := h.step (i := i + 1 + 2) (by omega) q.1
  have e3 := dueN_s t (i := i + 2) (by omega)
  rw [show i + 1 + 2 = i + 2 + 1 by omega, e3, d2] at s4
  rw [d2] at s3
  have k1 : dbZ 2 (chZ t (i + 2)) = 4 ∨ dbZ 2 (chZ t (i + 2)) = 0 := by
    have u : dbZ 2 (chZ t (i + 2)) = if dgP (chZ t (i + 2)) then 4 else if chZ t (i + 2) = 59 then 0 else 5 := rfl
    rw [u] at s3 ⊢
    (repeat' split) <;> first | omega | (exfalso; apply s3; rw [if_neg (by assumption), if_neg (by assumption)])
  rw [show i + 2 + 1 = i + 1 + 2 by omega] at s4
  have q2 := q.2
  rcases k1 with k1 | k1 <;> rw [k1] at s4
  · apply s4
    show (if chZ t (i + 1 + 2) = 59 then (0 : Int) else 5) = 5
    rw [if_neg (by omega)]
  · apply s4
    show (if chZ t (i + 1 + 2) = 112 then (1 : Int) else if slP (chZ t (i + 1 + 2)) then 3 else 5) = 5
    rw [if_neg (by omega), if_neg (by omega)]
/-- the station of an order -/
theorem fitT.s {t : TD} (h : fitT t) {i : Int} (hc : slP (chZ t i)) : (0 ≤ i ∧ i + 1 < t.1.toInt) ∧ dueN t i.toNat = 0 ∧ (48 ≤ chZ t (i + 1) ∧ chZ t (i + 1) ≤ 50) ∧ dueN t (i + 2).toNat = 4 ∧ ¬ (i + 2 < t.1.toInt ∧ dgP (chZ t (i + 2))) ∧ ¬ (i + 1 + 2 < t.1.toInt ∧ dgP (chZ t (i + 1 + 2))) := by
  have hi := chZ_in (t := t) (i := i) (by omega)
  have d0 := dbZ_let (Or.inr hc) (h.step hi.1 hi.2.1)
  have d1 : dueN t (i + 1).toNat = 3 := by
    rw [dueN_s t hi.1, d0]
    show (if chZ t i = 112 then (1 : Int) else if slP (chZ t i) then 3 else 5) = 3
    rw [if_neg (by omega), if_pos hc]
  have l1 := h.due (i := i + 1) (by omega) (by omega) (by omega)
  have s1 := h.step (i := i + 1) (by omega) l1
  rw [d1] at s1
  have s2 : (if 48 ≤ chZ t (i + 1) ∧ chZ t (i + 1) ≤ 50 then (4 : Int) else 5) ≠ 5 := s1
  have c1 : 48 ≤ chZ t (i + 1) ∧ chZ t (i + 1) ≤ 50 := by
    by_cases c : 48 ≤ chZ t (i + 1) ∧ chZ t (i + 1) ≤ 50
    · exact c
    · rw [if_neg c] at s2
      exact absurd rfl s2
  have d2 : dueN t (i + 2).toNat = 4 := by
    rw [show i + 2 = i + 1 + 1 by omega, dueN_s t (by omega), d1]
    exact if_pos c1
  have k0 : i + 2 < t.1.toInt → chZ t (i + 2) = 59 := by
    intro q
    have s3 := h.step (i := i + 2) (by omega) q
    rw [d2] at s3
    have s5 : (if chZ t (i + 2) = 59 then (0 : Int) else 5) ≠ 5 := s3
    by_cases c : chZ t (i + 2) = 59
    · exact c
    · rw [if_neg c] at s5
      exact absurd rfl s5
  refine ⟨⟨hi.1, l1⟩, d0, c1, d2, fun q => ?_, fun q => ?_⟩
  · have := k0 q.1
    omega
  · have k1 := k0 (by omega)
    have s4 := h.step (i := i + 1 + 2) (by omega) q.1
    have e3 := dueN_s t (i := i + 2) (by omega)
    rw [show i + 1 + 2 = i + 2 + 1 by omega, e3, d2, k1] at s4
    have q2 := q.2
    rw [show i + 2 + 1 = i + 1 + 2 by omega] at s4
    apply s4
    show (if chZ t (i + 1 + 2) = 112 then (1 : Int) else if slP (chZ t (i + 1 + 2)) then 3 else 5) = 5
    rw [if_neg (by omega), if_neg (by omega)]
theorem fitT.sn {t : TD} (h : fitT t) {i : Int} (hc : slP (chZ t i)) : nmZ t (i + 1) = chZ t (i + 1) - 48 := by
  obtain ⟨h1, h2, h3, h4, h5, h6⟩ := h.s hc
  exact nmZ_1 ⟨h1.2, by omega⟩ (fun q => h5 (by rw [show i + 2 = i + 1 + 1 by omega]; exact q))
/-- the state behind the orders that start among the first n characters -/
def foN (τ : SD) (t : TD) : Nat → SD
  | 0 => τ
  | n + 1 => if stP t n then obS (foN τ t n) (chZ t n) (nmZ t ((n : Int) + 1)) else foN τ t n
def ordZ (t : TD) (n : Nat) : Int := cntZ (fun j => stP t (j : Int)) n
def hrsZ (t : TD) (n : Nat) : Int := sumZ (haF t) 0 n
theorem foN_t {τ : SD} {t : TD} {i : Int} (h : 0 ≤ i) (hc : stP t i) : foN τ t (i + 1).toNat = obS (foN τ t i.toNat) (chZ t i) (nmZ t (i + 1)) := by
  rw [show (i + 1).toNat = i.toNat + 1 by omega]
  show (if stP t ((i.toNat : Nat) : Int) then _ else _) = _
  rw [show ((i.toNat : Nat) : Int) = i by omega, if_pos hc]
theorem foN_f {τ : SD} {t : TD} {i : Int} (h : 0 ≤ i) (hc : ¬ stP t i) : foN τ t (i + 1).toNat = foN τ t i.toNat := by
  rw [show (i + 1).toNat = i.toNat + 1 by omega]
  show (if stP t ((i.toNat : Nat) : Int) then _ else _) = _
  rw [show ((i.toNat : Nat) : Int) = i by omega, if_neg hc]
theorem hrsZ_mono (t : TD) {a b : Nat} (h : a ≤ b) : hrsZ t a ≤ hrsZ t b := by
  induction b with
  | zero => rw [show a = 0 by omega]; exact Int.le_refl _
  | succ b ih =>
    rcases Nat.lt_or_ge a (b + 1) with g | g
    · have h1 := ih (by omega)
      have h2 := haF_b t (0 + (b : Int))
      show hrsZ t a ≤ hrsZ t b + haF t (0 + b)
      omega
    · rw [show a = b + 1 by omega]; exact Int.le_refl _
theorem foN_ok {τ : SD} {t : TD} (h : stOk τ) (hf : fitT t) (hs : τ.1.toInt + hrsZ t t.1.toInt.toNat ≤ 120) (n : Nat) (hn : (n : Int) ≤ t.1.toInt) : stOk (foN τ t n) ∧ (foN τ t n).1.toInt = τ.1.toInt + hrsZ t n := by
  induction n with
  | zero => exact ⟨h, by show τ.1.toInt = τ.1.toInt + 0; omega⟩
  | succ n ih =>
    obtain ⟨i1, i2⟩ := ih (by omega)
    have e1 : hrsZ t (n + 1) = hrsZ t n + haF t n := by
      show hrsZ t n + haF t (0 + n) = _
      rw [Int.zero_add]
    have m1 := hrsZ_mono t (show n + 1 ≤ t.1.toInt.toNat by omega)
    have nb := nmZ_b t ((n : Int) + 1)
    by_cases c : stP t n
    · have e2 : foN τ t (n + 1) = obS (foN τ t n) (chZ t n) (nmZ t ((n : Int) + 1)) := if_pos c
      rw [e2]
      have hh : chZ t n = 112 → haF t n = nmZ t ((n : Int) + 1) := fun q => if_pos q
      have := obS_ok (σ := foN τ t n) (k := chZ t n) (v := nmZ t ((n : Int) + 1)) i1 (fun q => by have := hh q; omega)
      refine ⟨this.1, ?_⟩
      rw [this.2, e1]
      by_cases c2 : chZ t n = 112
      · rw [if_pos c2, hh c2]
        omega
      · rw [if_neg c2, show haF t n = 0 from if_neg c2]
        omega
    · have e2 : foN τ t (n + 1) = foN τ t n := if_neg c
      rw [e2]
      refine ⟨i1, ?_⟩
      rw [e1, show haF t n = 0 from if_neg (fun q => c (Or.inl q))]
      omega
def a_follow (σ : FD) : Int := if ftZ σ.2.2.2.2.2.2 ≠ -1 then -100 - ftZ σ.2.2.2.2.2.2 else if 120 < σ.1.1.toInt + hrsZ σ.2.2.2.2.2.2 σ.2.2.2.2.2.2.1.toInt.toNat then -3 else ordZ σ.2.2.2.2.2.2 σ.2.2.2.2.2.2.1.toInt.toNat
def s_follow (σ : FD) : FD := if ftZ σ.2.2.2.2.2.2 = -1 ∧ σ.1.1.toInt + hrsZ σ.2.2.2.2.2.2 σ.2.2.2.2.2.2.1.toInt.toNat ≤ 120 then actF σ (foN σ.1 σ.2.2.2.2.2.2 σ.2.2.2.2.2.2.1.toInt.toNat) else σ
theorem ftZ_b {t : TD} (ht : textOk t) : -1 ≤ ftZ t ∧ ftZ t ≤ 60 := by
  have hl := ht.1
  have hb := nthZ_b (fun j => dueN t (((j : Nat) : Int) + 1).toNat = 5) 0 t.1.toInt.toNat
  unfold ftZ ftB
  (repeat' split) <;> omega
theorem hrsZ_b (t : TD) (n : Nat) : 0 ≤ hrsZ t n ∧ hrsZ t n ≤ 99 * n := by
  have := sumZ_b (f := haF t) (lo := 0) (hi := 99) (by omega) (by omega) (haF_b t) 0 n
  unfold hrsZ
  omega
theorem fol_pre {τ : SD} {t : TD} {i : Int} (h : stOk τ) (hf : fitT t) (hs : τ.1.toInt + hrsZ t t.1.toInt.toNat ≤ 120) (h0 : 0 ≤ i) (hi : i < t.1.toInt) (hc : stP t i) : (¬ (i + 1 + 2 < t.1.toInt ∧ dgP (chZ t (i + 1 + 2)))) ∧ ((chZ t i = 112 ∧ 0 ≤ nmZ t (i + 1) ∧ (foN τ t i.toNat).1.toInt + nmZ t (i + 1) ≤ 120) ∨ ((((chZ t i = 120 ∨ chZ t i = 111) ∨ chZ t i = 99) ∨ chZ t i = 108) ∧ 0 ≤ nmZ t (i + 1) ∧ nmZ t (i + 1) < 3)) := by
  have nb := nmZ_b t (i + 1)
  rcases hc with c | c
  · have hp := hf.p c
    refine ⟨hp.2.2.2.2, Or.inl ⟨c, nb.1, ?_⟩⟩
    have o1 := foN_ok h hf hs i.toNat (by omega)
    have m1 := hrsZ_mono t (show i.toNat + 1 ≤ t.1.toInt.toNat by omega)
    have e1 : hrsZ t (i.toNat + 1) = hrsZ t i.toNat + haF t i := by
      show hrsZ t i.toNat + haF t (0 + ((i.toNat : Nat) : Int)) = _
      rw [show 0 + ((i.toNat : Nat) : Int) = i by omega]
    have e2 : haF t i = nmZ t (i + 1) := if_pos c
    omega
  · have hp := hf.s c
    have e := hf.sn c
    refine ⟨hp.2.2.2.2.2, Or.inr ⟨?_, nb.1, by omega⟩⟩
    have c2 := c
    unfold slP at c2
    omega
