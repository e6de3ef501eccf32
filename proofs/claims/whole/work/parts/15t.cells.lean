/-! changes of the row of numbers -/
theorem cR_ne {s : Nat → Int32} {t t' w w' : Int} {v : Int32} (ht : 0 ≤ t ∧ t < 3) (ht' : 0 ≤ t' ∧ t' < 3) (hw : 0 ≤ w ∧ w < 731) (hw' : 0 ≤ w' ∧ w' < 731) (h : t' ≠ t ∨ w' ≠ w) : cR (upd s (10 + 731 * t + w).toNat v) t' w' = cR s t' w' := by
  unfold cR
  rw [upd_ne (by omega)]
theorem cR_at {s : Nat → Int32} {t w : Int} {v : Int32} : cR (upd s (10 + 731 * t + w).toNat v) t w = v.toInt := by
  unfold cR
  rw [upd_at]
def sameBut (s s' : Nat → Int32) (t : Int) : Prop := (∀ k : Nat, k < 10 → s' k = s k) ∧ ∀ t' : Int, 0 ≤ t' → t' < 3 → t' ≠ t → ∀ w : Int, 0 ≤ w → w < 731 → cR s' t' w = cR s t' w
theorem sameBut.rf {s : Nat → Int32} {t : Int} : sameBut s s t := ⟨fun _ _ => rfl, fun _ _ _ _ _ _ _ => rfl⟩
theorem sameBut.up {s s' : Nat → Int32} {t w : Int} {v : Int32} (h : sameBut s s' t) (ht : 0 ≤ t ∧ t < 3) (hw : 0 ≤ w ∧ w < 731) : sameBut s (upd s' (10 + 731 * t + w).toNat v) t := by
  refine ⟨fun k hk => ?_, fun t' h0 h1 hn w' g0 g1 => ?_⟩
  · rw [upd_ne (by omega)]
    exact h.1 k hk
  · rw [cR_ne ht ⟨h0, h1⟩ hw ⟨g0, g1⟩ (Or.inl hn)]
    exact h.2 t' h0 h1 hn w' g0 g1
theorem sameBut.tr {s s1 s2 : Nat → Int32} {t : Int} (h : sameBut s s1 t) (g : sameBut s1 s2 t) : sameBut s s2 t :=
  ⟨fun k hk => (g.1 k hk).trans (h.1 k hk), fun t' h0 h1 hn w' g0 g1 => (g.2 t' h0 h1 hn w' g0 g1).trans (h.2 t' h0 h1 hn w' g0 g1)⟩
theorem sumZ_congr {f g : Int → Int} {a : Int} {n : Nat} (h : ∀ i : Int, a ≤ i → i < a + n → f i = g i) : sumZ f a n = sumZ g a n := by
  induction n with
  | zero => rfl
  | succ n ih =>
    show sumZ f a n + f (a + n) = sumZ g a n + g (a + n)
    rw [ih (fun i h0 h1 => h i h0 (by omega)), h (a + n) (by omega) (by omega)]
theorem Rn.congr {c c' : Int → Int} {d : GD} {n : Int} (h : Rn c d n) (hc : ∀ w : Int, 489 ≤ w → w < 731 → c' w = c w) (hL : 0 ≤ (d.1 11).toInt ∧ (d.1 11).toInt ≤ 120) : Rn c' d n := by
  obtain ⟨⟨h1, h2, h3, h4, h5, h6⟩, h7, h8, h9, h10⟩ := h
  refine ⟨⟨fun i a b => ?_, ?_, ?_, fun i a b => ?_, ?_, ?_⟩, h7, fun i j k a b e f g1 g2 g3 => ?_, fun i a b => ?_, h10⟩
  · rw [hc _ (by omega) (by omega)]; exact h1 i a b
  · rw [hc _ (by omega) (by omega)]; exact h2
  · rw [hc _ (by omega) (by omega)]; exact h3
  · rw [hc _ (by omega) (by omega)]; exact h4 i a b
  · rw [hc _ (by omega) (by omega)]; exact h5
  · rw [h6]; exact sumZ_congr (fun i a b => (hc _ (by omega) (by omega)).symm)
  · rw [hc _ (by omega) (by omega)] at g1
    rw [hc _ (by omega) (by omega)] at g2
    rw [hc _ (by omega) (by omega), hc _ (by omega) (by omega)]
    exact h8 i j k a b e f g1 g2 (fun m x y => by rw [← hc _ (by omega) (by omega)]; exact g3 m x y)
  · rw [hc _ (by omega) (by omega)]; exact h9 i a b
theorem Rh.congr {c c' : Int → Int} {d : GD} (h : Rh c d) (hc : ∀ w : Int, 9 ≤ w → w < 489 → c' w = c w) : Rh c' d := by
  intro i a b
  obtain ⟨h1, h2, h3, h4⟩ := h i a b
  refine ⟨?_, ?_, fun k => ?_, fun k => ?_⟩
  · rw [hc _ (by omega) (by omega)]; exact h1
  · rw [hc _ (by omega) (by omega)]; exact h2
  · rw [hc _ (by omega) (by omega)]; exact h3 k
  · rw [hc _ (by omega) (by omega)]; exact h4 k
theorem Rg.congr {c c' : Int → Int} {d : GD} {n : Int} (h : Rg c d n) (hc : ∀ w : Int, 0 ≤ w → w < 731 → c' w = c w) (hL : 0 ≤ (d.1 11).toInt ∧ (d.1 11).toInt ≤ 120) : Rg c' d n :=
  ⟨fun k a b => (hc k a (by omega)).trans (h.1 k a b), h.2.1.congr (fun w a b => hc w (by omega) (by omega)), h.2.2.congr (fun w a b => hc w (by omega) (by omega)) hL⟩
theorem stOk.L {τ : SD} (h : stOk τ) {i : Nat} (hi : i < 3) : 0 ≤ ((τ.2.2 i).1 11).toInt ∧ ((τ.2.2 i).1 11).toInt ≤ 120 := by
  have h1 := h.1
  have h2 := (h.2.2 i hi).2.2.2.1.2.2
  omega
theorem Rs.gset {τ : SD} {s s' : Nat → Int32} {t : Int} {d' : GD} (h : Rs τ s) (hok : stOk τ) (ht : 0 ≤ t ∧ t < 3) (hs : sameBut s s' t) (hg : Rg (fun w => cR s' t w) d' τ.1.toInt) : Rs (τ.1, τ.2.1, va_up τ.2.2 t.toNat d') s' := by
  refine ⟨?_, fun i a b => ?_, fun t' a b => ?_⟩
  · rw [hs.1 _ (by omega)]; exact h.1
  · rw [hs.1 _ (by omega), hs.1 _ (by omega), hs.1 _ (by omega)]; exact h.2.1 i a b
  · by_cases e : t' = t
    · subst e
      show Rg _ (va_up τ.2.2 t'.toNat d' t'.toNat) _
      rw [va_up_self]
      exact hg
    · show Rg _ (va_up τ.2.2 t.toNat d' t'.toNat) _
      rw [va_up_ne _ _ (by omega)]
      exact (h.2.2 t' a b).congr (fun w x y => hs.2 t' a b e w x y) (hok.L (by omega))
/-- one of the numbers 0 to 8 of a station -/
theorem Rg.set {c c' : Int → Int} {d : GD} {n k : Int} {v : Int32} (h : Rg c d n) (hk : 0 ≤ k ∧ k ≤ 8 ∧ k ≠ 7) (h1 : c' k = v.toInt) (h2 : ∀ w : Int, 0 ≤ w → w < 731 → w ≠ k → c' w = c w) (hL : 0 ≤ (d.1 11).toInt ∧ (d.1 11).toInt ≤ 120) : Rg c' (upd d.1 k.toNat v, d.2) n := by
  refine ⟨fun i a b => ?_, h.2.1.congr (fun w a b => h2 w (by omega) (by omega) (by omega)), ?_⟩
  · show c' i = (upd d.1 k.toNat v i.toNat).toInt
    by_cases e : i = k
    · subst e
      rw [upd_at]
      exact h1
    · rw [upd_ne (by omega), h2 i a (by omega) e]
      exact h.1 i a b
  · have g := h.2.2.congr (c' := c') (fun w a b => h2 w (by omega) (by omega) (by omega)) hL
    have e7 : upd d.1 k.toNat v 7 = d.1 7 := upd_ne (by omega)
    have e9 : upd d.1 k.toNat v 9 = d.1 9 := upd_ne (by omega)
    have e10 : upd d.1 k.toNat v 10 = d.1 10 := upd_ne (by omega)
    have e11 : upd d.1 k.toNat v 11 = d.1 11 := upd_ne (by omega)
    obtain ⟨⟨g1, g2, g3, g4, g5, g6⟩, g7, g8, g9, g10⟩ := g
    refine ⟨⟨g1, g2, ?_, ?_, ?_, ?_⟩, ?_, g8, g9, ?_⟩
    · show c' (610 + (upd d.1 k.toNat v 11).toInt) = 1
      rw [e11]; exact g3
    · show ∀ h : Int, (upd d.1 k.toNat v 11).toInt < h → _
      rw [e11]; exact g4
    · show c' (489 + (upd d.1 k.toNat v 11).toInt) = (upd d.1 k.toNat v 10).toInt
      rw [e11, e10]; exact g5
    · show (upd d.1 k.toNat v 9).toInt = _
      rw [e9]; exact g6
    · show ∀ h : Int, (upd d.1 k.toNat v 11).toInt ≤ h → h < n → _ = (upd d.1 k.toNat v 10).toInt
      rw [e11, e10]; exact g7
    · show (upd d.1 k.toNat v 11).toInt = n → (upd d.1 k.toNat v 10).toInt = (upd d.1 k.toNat v 7).toInt
      rw [e11, e10, e7]; exact g10
theorem Rs.set {τ : SD} {s : Nat → Int32} {t k : Int} {v : Int32} (h : Rs τ s) (hok : stOk τ) (ht : 0 ≤ t ∧ t < 3) (hk : 0 ≤ k ∧ k ≤ 8 ∧ k ≠ 7) : Rs (τ.1, τ.2.1, va_up τ.2.2 t.toNat (upd (τ.2.2 t.toNat).1 k.toNat v, (τ.2.2 t.toNat).2)) (upd s (10 + 731 * t + k).toNat v) :=
  h.gset hok ht (sameBut.rf.up ht (by omega)) ((h.g ht).set hk cR_at (fun w a b e => cR_ne ht ht (by omega) ⟨a, b⟩ (Or.inr e)) (hok.L (by omega)))
/-- all but the row of numbers stands -/
def Mf (μ μ' : MD) : Prop := μ'.1 = μ.1 ∧ μ'.2.2 = μ.2.2
theorem Rs.to {τ τ' : SD} {s : Nat → Int32} (h : Rs τ s) (e : τ = τ') : Rs τ' s := e ▸ h
theorem sfN_ok {τ : SD} (h : stOk τ) (i : Int) : stOk (τ.1, τ.2.1, sfN τ i) := by
  refine ⟨h.1, h.2.1, fun j hj => ?_⟩
  show gaugeOk (sfN τ i j) _
  unfold sfN
  split
  · exact sfG_ok h.2.1 (h.2.2 j hj)
  · exact h.2.2 j hj
theorem zup {z : Int → Int} {i k : Int} (h : ∀ j : Int, i < j → j < k → z j = 0) (hk : z k = 0) : ∀ j : Int, i < j → j < k + 1 → z j = 0 := fun j a b => (Int.lt_or_eq_of_le (show j ≤ k by omega)).elim (fun q => h j a q) (fun q => by rw [q]; exact hk)
theorem zdn {z : Int → Int} {i k : Int} (h : ∀ j : Int, i < j → j ≤ k → z j = 0) (hk : z i = 0) : ∀ j : Int, i + (-1) < j → j ≤ k → z j = 0 := fun j a b => (Int.lt_or_eq_of_le (show i ≤ j by omega)).elim (fun q => h j q b) (fun q => by rw [← q]; exact hk)
theorem cor_end {c : Int → Int} {d : GD} {n i h : Int} (hn : Rn c d n) (hL : 0 ≤ (d.1 11).toInt ∧ (d.1 11).toInt ≤ 120) (hi : 0 ≤ i ∧ i ≤ h ∧ h < n) (hm : n ≤ 120) (h1 : ∀ j : Int, i < j → j ≤ h → c (610 + j) = 0) (h2 : c (610 + i) = 1) (h3 : ∀ j : Int, h < j → j < 121 → c (610 + j) = 0) : c (489 + i) = corrZ d h := by
  obtain ⟨⟨g1, g2, g3, g4, g5, g6⟩, g7, g8, g9⟩ := hn
  have e : i = (d.1 11).toInt := by
    rcases Int.lt_trichotomy i (d.1 11).toInt with q | q | q
    · by_cases r : (d.1 11).toInt ≤ h
      · have := h1 _ q r
        omega
      · have := h3 (d.1 11).toInt (by omega) (by omega)
        omega
    · exact q
    · have := g4 i q (by omega)
      omega
  rw [e, g5, g7 h (by omega) hi.2.2]
theorem cor_mid {c : Int → Int} {d : GD} {n i h k : Int} (hn : Rn c d n) (hi : 0 ≤ i ∧ i ≤ h ∧ h < k ∧ k ≤ 120) (h1 : ∀ j : Int, i < j → j ≤ h → c (610 + j) = 0) (h2 : c (610 + i) = 1) (h3 : ∀ j : Int, h < j → j < k → c (610 + j) = 0) (h4 : c (610 + k) = 1) : c (489 + i) + (c (489 + k) - c (489 + i)) * (h - i) / (k - i) = corrZ d h := by
  rw [hn.2.2.1 i h k hi.1 hi.2.1 hi.2.2.1 hi.2.2.2 h2 h4 (fun j a b => by
    by_cases q : j ≤ h
    · exact h1 j a q
    · exact h3 j (by omega) b)]
  unfold shZ
  rw [if_neg (by omega)]
theorem corrB {d : GD} {n : Int} (hd : gaugeOk d n) (h : Int) : 0 ≤ corrZ d h ∧ corrZ d h ≤ 120 := rowZ_b (by omega) hd.2.2.2.2.2.1 h
