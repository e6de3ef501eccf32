/-! a note, and an hour that passes -/
theorem sumZ_one {f g : Int → Int} {a i e : Int} {n : Nat} (hi : a ≤ i ∧ i < a + n) (h : ∀ j : Int, j ≠ i → a ≤ j → j < a + n → g j = f j) (he : g i = f i + e) : sumZ g a n = sumZ f a n + e := by
  induction n with
  | zero => omega
  | succ n ih =>
    show sumZ g a n + g (a + n) = sumZ f a n + f (a + n) + e
    by_cases c : i = a + n
    · rw [sumZ_congr (f := g) (g := f) (fun j x y => h j (by omega) x (by omega)), ← c, he]
      omega
    · rw [ih (by omega) (fun j x y z => h j x y (by omega)), h (a + n) (fun q => c q.symm) (by omega) (by omega)]
      omega
theorem Rg.note {c c' : Int → Int} {d : GD} {n : Int} {x : Int32} (h : Rg c d n) (hd : gaugeOk d n) (hn : 0 ≤ n ∧ n ≤ 120) (hx : x.toInt = n) (h1 : c' (610 + n) = 1) (h2 : c' (489 + n) = (d.1 7).toInt) (h3 : ∀ w : Int, 0 ≤ w → w < 731 → w ≠ 610 + n → w ≠ 489 + n → c' w = c w) : Rg c' (ntG d x) n := by
  have hL := hd.2.2.2.1.2.2
  have h7b := hd.2.2.1.1
  obtain ⟨g0, gh, ⟨⟨g1, g2, g3, g4, g5, g6⟩, g7, g8, g9, g10⟩⟩ := id h
  by_cases e : (d.1 11).toInt = x.toInt
  · rw [show ntG d x = d from if_pos e]
    refine h.congr (fun w a b => ?_) (by omega)
    by_cases e1 : w = 610 + n
    · rw [e1, h1, ← hx, ← e, g3]
    · by_cases e2 : w = 489 + n
      · rw [e2, h2, ← g10 (by omega), ← g5, e, hx]
      · exact h3 w a b e1 e2
  · rw [show ntG d x = (upd (upd (upd d.1 10 (d.1 7)) 11 x) 9 (Int32.ofInt ((d.1 9).toInt + 1)), d.2.1, d.2.2.1, ntC d x.toInt x.toInt) from if_neg e]
    have hb9 := hd.2.2.2.1.1
    have e9 : (Int32.ofInt ((d.1 9).toInt + 1)).toInt = (d.1 9).toInt + 1 := zi_ofI (by omega)
    have f6 : ∀ j : Int, 0 ≤ j → j ≤ 120 → j ≠ n → c' (610 + j) = c (610 + j) := fun j a b q => h3 _ (by omega) (by omega) (by omega) (by omega)
    have f4 : ∀ j : Int, 0 ≤ j → j ≤ 120 → j ≠ n → c' (489 + j) = c (489 + j) := fun j a b q => h3 _ (by omega) (by omega) (by omega) (by omega)
    refine ⟨fun k a b => ?_, gh.congr (fun w a b => h3 w (by omega) (by omega) (by omega) (by omega)), ⟨⟨fun j a b => ?_, ?_, ?_, fun j a b => ?_, ?_, ?_⟩, fun j a b => ?_, fun i j k a b p q r1 r2 r3 => ?_, fun j a b => ?_, fun _ => ?_⟩⟩
    · rw [h3 k a (by omega) (by omega) (by omega), g0 k a b]
      show _ = (upd (upd (upd d.1 10 (d.1 7)) 11 x) 9 _ k.toNat).toInt
      rw [upd_ne (by omega), upd_ne (by omega), upd_ne (by omega)]
    · by_cases q : j = n
      · rw [q]; exact Or.inr h1
      · rw [f6 j a b q]; exact g1 j a b
    · rw [f6 0 (by omega) (by omega) (by omega)]; exact g2
    · show c' (610 + x.toInt) = 1
      rw [hx]; exact h1
    · have a2 : x.toInt < j := a
      rw [f6 j (by omega) b (by omega)]
      exact g4 j (by omega) b
    · show c' (489 + x.toInt) = (d.1 7).toInt
      rw [hx]; exact h2
    · show (Int32.ofInt ((d.1 9).toInt + 1)).toInt = _
      rw [e9, g6]
      refine (sumZ_one (i := n) (by omega) (fun j q a b => f6 j (by omega) (by omega) q) ?_).symm
      show c' (610 + n) = c (610 + n) + 1
      rw [h1, g4 n (by omega) (by omega)]
      rfl
    · have a2 : x.toInt ≤ j := a
      omega
    · have hk : k ≤ n := by
        by_cases w : k ≤ n
        · exact w
        · rw [f6 k (by omega) q (by omega), g4 k (by omega) q] at r2
          omega
      have hin : i < n := by omega
      have ci := r1
      rw [f6 i a (by omega) (by omega)] at ci
      have hjr : corrZ (upd (upd (upd d.1 10 (d.1 7)) 11 x) 9 (Int32.ofInt ((d.1 9).toInt + 1)), d.2.1, d.2.2.1, ntC d x.toInt x.toInt) j = (ntC d x.toInt x.toInt j.toNat).toInt := by
        unfold corrZ rowZ
        rw [if_pos (by omega)]
      rw [hjr]
      by_cases ek : k = n
      · subst ek
        have ei : i = (d.1 11).toInt := by
          rcases Int.lt_trichotomy i (d.1 11).toInt with w | w | w
          · have := r3 (d.1 11).toInt w (by omega)
            rw [f6 _ (by omega) (by omega) (by omega), g3] at this
            omega
          · exact w
          · have := g4 i w (by omega)
            omega
        have hb := shZ_in (w := (d.1 7).toInt - (d.1 10).toInt) (h := j - (d.1 11).toInt) (a := x.toInt - (d.1 11).toInt) (by have := hd.2.2.2.1.2.1; omega) (by omega)
        rw [f4 i (by omega) (by omega) (by omega), h2, ei, g5]
        unfold ntC
        rw [if_pos (by omega), show ((j.toNat : Nat) : Int) = j by omega, zi_ofI (by have := hd.2.2.2.1.2.1; omega), hx]
      · have ck := r2
        rw [f6 k (by omega) q ek] at ck
        have hkL : k ≤ (d.1 11).toInt := by
          by_cases w : k ≤ (d.1 11).toInt
          · exact w
          · have := g4 k (by omega) q
            omega
        rw [f4 i (by omega) (by omega) (by omega), f4 k (by omega) (by omega) ek]
        rw [← g8 i j k a b p q ci ck (fun m y z => by rw [← f6 m (by omega) (by omega) (by omega)]; exact r3 m y z)]
        unfold ntC corrZ rowZ
        rw [if_neg (by omega), if_pos (by omega)]
    · by_cases q : j = n
      · rw [q, h2]; omega
      · rw [f4 j a b q]; exact g9 j a b
    · rfl
theorem Rg.pass {c c' : Int → Int} {d : GD} {n w : Int} (h : Rg c d n) (hd : gaugeOk d n) (hn : 0 ≤ n ∧ n < 120) (hw : -20000 ≤ w ∧ w ≤ 20000) (h1 : c' 3 = flN d w) (h2 : c' 4 = siltN d n) (h3 : c' 7 = sunkN d n) (h4 : (d.1 8).toInt = 1 → c' (129 + n) = 1 ∧ c' (9 + n) = flN d w + (d.1 7).toInt) (h5 : (d.1 8).toInt ≠ 1 → c' (129 + n) = c (129 + n)) (h6 : ∀ v : Int, 0 ≤ v → v < 731 → v ≠ 3 → v ≠ 4 → v ≠ 7 → v ≠ 129 + n → v ≠ 9 + n → c' v = c v) : Rg c' (phG d n w) (n + 1) := by
  have hL := hd.2.2.2.1.2.2
  have f1 := flN_b (d := d) (w := w) (L := 20000) hd.2.1.2.1 (by have := hd.2.1.1; omega) (by omega)
  have f2 := siltN_b (d := d) (h := n) hd.2.1.2.1
  have f3 := sunkN_b (d := d) (h := n)
  have hs := hd.2.2.1
  obtain ⟨g0, gh, gn⟩ := h
  have k3 := kind_out (h := n) hd (by omega) (by omega)
  refine ⟨fun k a b => ?_, fun i a b => ?_, ?_⟩
  · show c' k = (upd (upd (upd d.1 3 _) 4 _) 7 _ k.toNat).toInt
    by_cases e7 : k = 7
    · subst e7
      rw [h3]
      show _ = (upd (upd (upd d.1 3 _) 4 _) 7 _ 7).toInt
      rw [upd_at, zi_ofI (by omega)]
    · rw [upd_ne (by omega)]
      by_cases e4 : k = 4
      · subst e4
        rw [h2]
        show _ = (upd (upd d.1 3 _) 4 _ 4).toInt
        rw [upd_at, zi_ofI (by omega)]
      · rw [upd_ne (by omega)]
        by_cases e3 : k = 3
        · subst e3
          rw [h1]
          show _ = (upd d.1 3 _ 3).toInt
          rw [upd_at, zi_ofI (by omega)]
        · rw [upd_ne (by omega), h6 k a (by omega) e3 e4 e7 (by omega) (by omega)]
          exact g0 k a b
  · obtain ⟨q1, q2, q3, q4⟩ := gh i a b
    have c3 : c' (369 + i) = c (369 + i) := h6 _ (by omega) (by omega) (by omega) (by omega) (by omega) (by omega) (by omega)
    have c4 : c' (249 + i) = c (249 + i) := h6 _ (by omega) (by omega) (by omega) (by omega) (by omega) (by omega) (by omega)
    have ek : kindZ (phG d n w) i = (upd d.2.1 n.toNat (if (d.1 8).toInt = 0 then 1 else 0) i.toNat).toInt := by
      unfold kindZ rowZ
      rw [if_pos (by omega)]
      rfl
    have er : readZ (phG d n w) i = (upd d.2.2.1 n.toNat (if (d.1 8).toInt = 0 then 0 else Int32.ofInt (flN d w + (d.1 7).toInt)) i.toNat).toInt := by
      unfold readZ rowZ
      rw [if_pos (by omega)]
      rfl
    have ek0 : kindZ d i = (d.2.1 i.toNat).toInt := by
      unfold kindZ rowZ
      rw [if_pos (by omega)]
    have er0 : readZ d i = (d.2.2.1 i.toNat).toInt := by
      unfold readZ rowZ
      rw [if_pos (by omega)]
    rw [ek, er, c3, c4]
    by_cases e : i = n
    · subst e
      rw [upd_at, upd_at]
      rw [k3] at q1 q2
      rw [if_neg (by omega)] at q1 q2
      by_cases o : (d.1 8).toInt = 0
      · rw [if_pos o, if_pos o, h5 (by omega), q1, q2]
        exact ⟨rfl, rfl, fun z => absurd z (by decide), fun z => absurd z (by decide)⟩
      · have o1 := h4 (by omega)
        rw [if_neg o, if_neg o, o1.1, o1.2, q2, zi_ofI (by omega)]
        exact ⟨rfl, rfl, fun _ => rfl, fun z => absurd z (by decide)⟩
    · rw [upd_ne (by omega), upd_ne (by omega), h6 (129 + i) (by omega) (by omega) (by omega) (by omega) (by omega) (by omega) (by omega), h6 (9 + i) (by omega) (by omega) (by omega) (by omega) (by omega) (by omega) (by omega), ← ek0, ← er0]
      exact ⟨q1, q2, q3, q4⟩
  · have g := gn.congr (c' := c') (fun v a b => h6 v (by omega) (by omega) (by omega) (by omega) (by omega) (by omega) (by omega)) (by omega)
    obtain ⟨g1, g7, g8, g9, g10⟩ := g
    have ec : ∀ j : Int, j ≠ n → corrZ (phG d n w) j = corrZ d j := by
      intro j q
      unfold corrZ rowZ
      show (if 0 ≤ j ∧ j < 120 then (upd d.2.2.2 n.toNat (d.1 10) j.toNat).toInt else 0) = _
      by_cases z : 0 ≤ j ∧ j < 120
      · rw [if_pos z, if_pos z, upd_ne (by omega)]
      · rw [if_neg z, if_neg z]
    have ecn : corrZ (phG d n w) n = (d.1 10).toInt := by
      unfold corrZ rowZ
      show (if 0 ≤ n ∧ n < 120 then (upd d.2.2.2 n.toNat (d.1 10) n.toNat).toInt else 0) = _
      rw [if_pos (by omega), upd_at]
    refine ⟨g1, fun j a b => ?_, fun i j k a b p q r1 r2 r3 => ?_, g9, fun z => ?_⟩
    · by_cases e : j = n
      · rw [e]; exact ecn
      · rw [ec j e]; exact g7 j a (by omega)
    · have hkL : k ≤ (d.1 11).toInt := by
        by_cases z : k ≤ (d.1 11).toInt
        · exact z
        · have := g1.2.2.2.1 k (by omega) q
          omega
      rw [ec j (by omega)]
      exact g8 i j k a b p q r1 r2 r3
    · have z2 : (d.1 11).toInt = n + 1 := z
      omega
theorem Rs.note {τ : SD} {s : Nat → Int32} {t : Int} {v : Int32} (h : Rs τ s) (hok : stOk τ) (ht : 0 ≤ t ∧ t < 3) (hv : v.toInt = ((τ.2.2 t.toNat).1 7).toInt) : Rs (τ.1, τ.2.1, va_up τ.2.2 t.toNat (ntG (τ.2.2 t.toNat) τ.1)) (upd (upd s (10 + 731 * t + (610 + τ.1.toInt)).toNat 1) (10 + 731 * t + (489 + τ.1.toInt)).toNat v) := by
  have hn := hok.1
  refine h.gset hok ht ((sameBut.rf.up ht (by omega)).up ht (by omega)) ((h.g ht).note (hok.2.2 t.toNat (by omega)) hn rfl ?_ ?_ (fun w a b e1 e2 => ?_))
  · show cR _ _ _ = 1
    rw [cR_ne ht ht (by omega) (by omega) (by omega), cR_at]
    rfl
  · show cR _ _ _ = _
    rw [cR_at]
    exact hv
  · show cR _ _ _ = cR _ _ _
    rw [cR_ne ht ht (by omega) (by omega) (by omega), cR_ne ht ht (by omega) (by omega) (by omega)]
theorem Rs.noted {τ : SD} {s : Nat → Int32} {t : Int} (h : Rs τ s) (hok : stOk τ) (ht : 0 ≤ t ∧ t < 3) : cR s t (610 + τ.1.toInt) = 1 ↔ ((τ.2.2 t.toNat).1 11).toInt = τ.1.toInt := by
  have hn := hok.1
  have hL := (hok.2.2 t.toNat (by omega)).2.2.2.1.2.2
  have g := (h.n ht).1
  constructor
  · intro q
    by_cases e : ((τ.2.2 t.toNat).1 11).toInt = τ.1.toInt
    · exact e
    · have h0 : cR s t (610 + τ.1.toInt) = 0 := g.2.2.2.1 τ.1.toInt (by omega) (by omega)
      omega
  · intro q
    have h0 : cR s t (610 + ((τ.2.2 t.toNat).1 11).toInt) = 1 := g.2.2.1
    rw [q] at h0
    exact h0
/-- the row while an hour passes: the stations before i have passed it -/
def Rq (τ : SD) (i : Int) (s : Nat → Int32) : Prop := (s (0 : Int).toNat).toInt = τ.1.toInt ∧ (∀ i : Int, 0 ≤ i → i < 3 → (s (1 + 3 * i).toNat).toInt = (τ.2.1 i.toNat 0).toInt ∧ (s (1 + 3 * i + 1).toNat).toInt = (τ.2.1 i.toNat 1).toInt ∧ (s (1 + 3 * i + 2).toNat).toInt = (τ.2.1 i.toNat 2).toInt) ∧ ∀ t : Int, 0 ≤ t → t < 3 → Rg (fun w => cR s t w) (gpN τ i t.toNat) (if t < i then τ.1.toInt + 1 else τ.1.toInt)
theorem Rq.zero {τ : SD} {s : Nat → Int32} (h : Rs τ s) : Rq τ 0 s := by
  refine ⟨h.1, h.2.1, fun t a b => ?_⟩
  rw [gpN_0 (by omega), if_neg (by omega)]
  exact h.2.2 t a b
theorem Rq.w {τ : SD} {i : Int} {s : Nat → Int32} (h : Rq τ i s) : Rw (τ.1, τ.2.1, gpN τ i) s := ⟨h.2.1, fun t a b => ⟨(h.2.2 t a b).1 0 (by omega) (by omega), (h.2.2 t a b).1 1 (by omega) (by omega), (h.2.2 t a b).1 2 (by omega) (by omega)⟩⟩
theorem Rq.g {τ : SD} {i : Int} {s : Nat → Int32} (h : Rq τ i s) (hi : 0 ≤ i ∧ i < 3) : Rg (fun w => cR s i w) (τ.2.2 i.toNat) τ.1.toInt := by
  have g := h.2.2 i hi.1 hi.2
  rw [gpN_at hi.1, if_neg (by omega)] at g
  exact g
theorem Rq.step {τ : SD} {i : Int} {s s' : Nat → Int32} (h : Rq τ i s) (hok : stOk τ) (hi : 0 ≤ i ∧ i < 3) (hn : τ.1.toInt < 120) (hs : sameBut s s' i) (hg : Rg (fun w => cR s' i w) (phG (τ.2.2 i.toNat) τ.1.toInt (watZ τ.2.1 (τ.2.2 i.toNat) τ.1.toInt)) (τ.1.toInt + 1)) : Rq τ (i + 1) s' := by
  have h0 := hok.1
  refine ⟨?_, fun j a b => ?_, fun t a b => ?_⟩
  · rw [hs.1 _ (by omega)]; exact h.1
  · rw [hs.1 _ (by omega), hs.1 _ (by omega), hs.1 _ (by omega)]; exact h.2.1 j a b
  · rw [← gpN_s hi.1]
    by_cases e : t = i
    · subst e
      rw [va_up_self, if_pos (by omega)]
      exact hg
    · rw [va_up_ne _ _ (by omega)]
      have g := h.2.2 t a b
      have hL : 0 ≤ ((gpN τ i t.toNat).1 11).toInt ∧ ((gpN τ i t.toNat).1 11).toInt ≤ 120 := by
        have h1 := hok.L (i := t.toNat) (by omega)
        have e1 : (gpN τ i t.toNat).1 11 = (τ.2.2 t.toNat).1 11 := by
          unfold gpN
          split <;> rfl
        rw [e1]
        exact h1
      have g2 := g.congr (c' := fun w => cR s' t w) (fun w x y => hs.2 t a b e w x y) hL
      by_cases e2 : t < i
      · rw [if_pos e2] at g2
        rw [if_pos (by omega)]
        exact g2
      · rw [if_neg e2] at g2
        rw [if_neg (by omega)]
        exact g2
theorem Rq.fin {τ : SD} {i : Int} {s : Nat → Int32} {z : Int32} (h : Rq τ i s) (hok : stOk τ) (hi : i = 3) (hn : τ.1.toInt < 120) (hz : z.toInt = τ.1.toInt + 1) : Rs (pH1 τ) (upd s (0 : Int).toNat z) := by
  have h0 := hok.1
  subst hi
  have e1 : (pH1 τ).1.toInt = τ.1.toInt + 1 := zi_ofI (by omega)
  refine ⟨?_, fun j a b => ?_, fun t a b => ?_⟩
  · rw [upd_at, e1]; exact hz
  · rw [upd_ne (by omega), upd_ne (by omega), upd_ne (by omega)]; exact h.2.1 j a b
  · have g := h.2.2 t a b
    rw [if_pos b] at g
    rw [e1]
    have hL : 0 ≤ ((gpN τ 3 t.toNat).1 11).toInt ∧ ((gpN τ 3 t.toNat).1 11).toInt ≤ 120 := by
      have h1 := hok.L (i := t.toNat) (by omega)
      have e2 : (gpN τ 3 t.toNat).1 11 = (τ.2.2 t.toNat).1 11 := by
        unfold gpN
        split <;> rfl
      rw [e2]
      exact h1
    refine g.congr (fun w x y => ?_) hL
    show (upd s _ z _).toInt = (s _).toInt
    rw [upd_ne (by omega)]
