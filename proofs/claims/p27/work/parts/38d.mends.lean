/-! a gap that is mended by the best phase -/
theorem phZ_ex {f : Int} (hf : -12 ≤ f ∧ f ≤ 12) : ∃ i : Nat, i < 25 ∧ phZ (i : Int) = f := by
  by_cases c : 0 ≤ f
  · refine ⟨(2 * f).toNat, by omega, ?_⟩
    unfold phZ
    rw [if_pos (by omega)]
    omega
  · refine ⟨(-2 * f - 1).toNat, by omega, ?_⟩
    unfold phZ
    rw [if_neg (by omega)]
    omega
/-- the size of a phase grows with its step -/
theorem phZ_le {i j : Nat} (h : j ≤ i) : (phZ (j : Int) ≤ phZ (i : Int) ∨ phZ (j : Int) ≤ -phZ (i : Int)) ∧ (-phZ (j : Int) ≤ phZ (i : Int) ∨ -phZ (j : Int) ≤ -phZ (i : Int)) := by
  unfold phZ
  split <;> split <;> omega
theorem bp_spec {d o : GD} {a b : Int} : ∀ n : Nat, n ≤ 25 →
    ((bpN d o a b n).1 = -5 ∧ ∀ i : Nat, i < n → ¬ rdP o (a + phZ (i : Int)) (b + phZ (i : Int))) ∨
    (∃ j : Nat, j < n ∧ (bpN d o a b n).1 = phZ (j : Int) + 100 ∧ (bpN d o a b n).2 = mfZ d o a b (phZ (j : Int)) ∧ rdP o (a + phZ (j : Int)) (b + phZ (j : Int)) ∧
      ∀ i : Nat, i < n → rdP o (a + phZ (i : Int)) (b + phZ (i : Int)) → mfZ d o a b (phZ (j : Int)) ≤ mfZ d o a b (phZ (i : Int)) ∧ (mfZ d o a b (phZ (j : Int)) = mfZ d o a b (phZ (i : Int)) → j ≤ i)) := by
  intro n
  induction n with
  | zero => intro _; exact Or.inl ⟨rfl, fun i hi => absurd hi (by omega)⟩
  | succ n ih =>
    intro hn
    have ih := ih (by omega)
    have e : bpN d o a b (n + 1) = itC (rdP o (a + phZ n) (b + phZ n) ∧ ((bpN d o a b n).1 = -5 ∨ mfZ d o a b (phZ n) < (bpN d o a b n).2)) (phZ n + 100, mfZ d o a b (phZ n)) (bpN d o a b n) := rfl
    by_cases c : rdP o (a + phZ n) (b + phZ n) ∧ ((bpN d o a b n).1 = -5 ∨ mfZ d o a b (phZ n) < (bpN d o a b n).2)
    · rw [e, itC_t c]
      refine Or.inr ⟨n, by omega, rfl, rfl, c.1, fun i hi hp => ?_⟩
      by_cases e2 : i = n
      · rw [e2]
        exact ⟨Int.le_refl _, fun _ => Nat.le_refl _⟩
      · rcases ih with ⟨-, q⟩ | ⟨j, j1, j2, j3, j4, j5⟩
        · exact absurd hp (q i (by omega))
        · have b1 := phZ_b (k := (j : Int)) (by omega)
          have b2 := (j5 i (by omega) hp).1
          rcases c.2 with w | w
          · omega
          · rw [j3] at w
            exact ⟨by omega, fun _ => by omega⟩
    · rw [e, itC_f c]
      rcases ih with ⟨q1, q⟩ | ⟨j, j1, j2, j3, j4, j5⟩
      · refine Or.inl ⟨q1, fun i hi => ?_⟩
        by_cases e2 : i = n
        · rw [e2]
          exact fun w => c ⟨w, Or.inl q1⟩
        · exact q i (by omega)
      · refine Or.inr ⟨j, by omega, j2, j3, j4, fun i hi hp => ?_⟩
        by_cases e2 : i = n
        · rw [e2] at hp ⊢
          have w : ¬ mfZ d o a b (phZ n) < (bpN d o a b n).2 := fun w => c ⟨hp, Or.inr w⟩
          rw [j3] at w
          exact ⟨by omega, fun _ => by omega⟩
        · exact j5 i (by omega) hp
/-- what stands when a gap's mending is looked at -/
def MC (σ : FD) (t k o : Int) : Prop := fdX σ ∧ (0 ≤ t ∧ t < 3) ∧ (0 ≤ o ∧ o < 3) ∧ o ≠ t ∧ 0 ≤ k ∧ k < gapsZ (σ.1.2.2 t.toNat)
theorem MC.f {σ : FD} {t k o : Int} (h : MC σ t k o) : fgZ (σ.1.2.2 t.toNat) k ≠ -1 := gap_iff.mp (by have := h.2.2.2.2; omega)
theorem MC.g2 {σ : FD} {t k o : Int} (h : MC σ t k o) : a_gap σ t k 2 = if inP (σ.1.2.2 t.toNat) k then 1 else 0 := by
  have hf := h.f
  unfold a_gap
  rw [if_neg (fun q => q ⟨h.2.1, hf⟩)]
  exact gp_2
theorem MC.ck {σ : FD} {t k o : Int} (h : MC σ t k o) {f : Int} (hf : -12 ≤ f ∧ f ≤ 12) : ckZ σ t k o f = if inP (σ.1.2.2 t.toNat) k then 0 else -4 := by
  have hg := h.f
  have hne := h.2.2.2.1
  unfold ckZ
  rw [if_neg (fun q => q ⟨h.2.1, h.2.2.1, hg⟩), if_neg (by omega)]
theorem mn_no {σ : FD} {t k o : Int} (h : MC σ t k o) (h2 : a_gap σ t k 2 = 0) : a_bestPhase σ t k o = -4 ∧ a_mend σ t k o 0 = -4 ∧ s_mend σ t k o 0 = σ := by
  have hg := h.g2
  have hi : ¬ inP (σ.1.2.2 t.toNat) k := fun q => by
    rw [if_pos q] at hg
    omega
  have hc := h.ck (f := 0) (by omega)
  rw [if_neg hi] at hc
  refine ⟨?_, ?_, ?_⟩
  · unfold a_bestPhase
    rw [if_pos (by omega)]
    exact hc
  · unfold a_mend
    rw [if_pos (by omega)]
    exact hc
  · unfold s_mend
    exact itC_f (fun q => by have := q.1; omega)
theorem MC.inn {σ : FD} {t k o : Int} (h : MC σ t k o) (h2 : a_gap σ t k 2 ≠ 0) : inP (σ.1.2.2 t.toNat) k := by
  have hg := h.g2
  refine Classical.byContradiction (fun q => ?_)
  rw [if_neg q] at hg
  exact h2 hg
theorem MC.mf {σ : FD} {t k o : Int} (h : MC σ t k o) (h2 : a_gap σ t k 2 ≠ 0) {f : Int} (hf : -12 ≤ f ∧ f ≤ 12) : a_misfit σ t k o f = itC (rdP (σ.1.2.2 o.toNat) (ahZ (σ.1.2.2 t.toNat) k + f) (bhZ (σ.1.2.2 t.toNat) k + f)) (mfZ (σ.1.2.2 t.toNat) (σ.1.2.2 o.toNat) (ahZ (σ.1.2.2 t.toNat) k) (bhZ (σ.1.2.2 t.toNat) k) f) (-5) := by
  have hc := h.ck hf
  rw [if_pos (h.inn h2)] at hc
  unfold a_misfit
  rw [if_neg (by omega)]
theorem MC.bp {σ : FD} {t k o : Int} (h : MC σ t k o) (h2 : a_gap σ t k 2 ≠ 0) : a_bestPhase σ t k o = (bpN (σ.1.2.2 t.toNat) (σ.1.2.2 o.toNat) (ahZ (σ.1.2.2 t.toNat) k) (bhZ (σ.1.2.2 t.toNat) k) 25).1 := by
  have hc := h.ck (f := 0) (by omega)
  rw [if_pos (h.inn h2)] at hc
  unfold a_bestPhase
  rw [if_neg (by omega)]
theorem bs_all {σ : FD} {t k o : Int} (h : MC σ t k o) (h2 : a_gap σ t k 2 ≠ 0) : a_bestPhase σ t k o = -5 ∨ ((88 ≤ a_bestPhase σ t k o ∧ a_bestPhase σ t k o ≤ 112) ∧ rdP (σ.1.2.2 o.toNat) (ahZ (σ.1.2.2 t.toNat) k + (a_bestPhase σ t k o - 100)) (bhZ (σ.1.2.2 t.toNat) k + (a_bestPhase σ t k o - 100))) := by
  rw [h.bp h2]
  rcases bp_spec (d := σ.1.2.2 t.toNat) (o := σ.1.2.2 o.toNat) (a := ahZ (σ.1.2.2 t.toNat) k) (b := bhZ (σ.1.2.2 t.toNat) k) 25 (Nat.le_refl _) with ⟨q, -⟩ | ⟨j, j1, j2, j3, j4, j5⟩
  · exact Or.inl q
  · have b1 := phZ_b (k := (j : Int)) (by omega)
    rw [j2, show phZ (j : Int) + 100 - 100 = phZ (j : Int) by omega]
    exact Or.inr ⟨by omega, j4⟩
theorem ms_all {σ : FD} {t k o : Int} (h : MC σ t k o) (h2 : a_gap σ t k 2 ≠ 0) {f : Int} (hf : -12 ≤ f ∧ f ≤ 12) :
    (a_misfit σ t k o f = -5 ∧ a_bestPhase σ t k o ≠ f + 100) ∨
    ((0 ≤ a_misfit σ t k o f ∧ a_misfit σ t k o f ≤ 100000000) ∧ (88 ≤ a_bestPhase σ t k o ∧ a_bestPhase σ t k o ≤ 112) ∧ a_misfit σ t k o (a_bestPhase σ t k o - 100) ≤ a_misfit σ t k o f ∧
      (a_misfit σ t k o (a_bestPhase σ t k o - 100) < a_misfit σ t k o f ∨ ((a_bestPhase σ t k o - 100 ≤ f ∨ a_bestPhase σ t k o - 100 ≤ -f) ∧ (100 - a_bestPhase σ t k o ≤ f ∨ 100 - a_bestPhase σ t k o ≤ -f)))) := by
  have hs1 := (h.1.1.1.2.2 t.toNat (by have := h.2.1; omega)).small
  have hs2 := (h.1.1.1.2.2 o.toNat (by have := h.2.2.1; omega)).small
  obtain ⟨i, i1, i2⟩ := phZ_ex hf
  have hbp := h.bp h2
  by_cases c : rdP (σ.1.2.2 o.toNat) (ahZ (σ.1.2.2 t.toNat) k + f) (bhZ (σ.1.2.2 t.toNat) k + f)
  · have m1 := h.mf h2 hf
    rw [itC_t c] at m1
    have mb := mfZ_b hs1 hs2 (ahZ (σ.1.2.2 t.toNat) k) (bhZ (σ.1.2.2 t.toNat) k) f
    rcases bp_spec (d := σ.1.2.2 t.toNat) (o := σ.1.2.2 o.toNat) (a := ahZ (σ.1.2.2 t.toNat) k) (b := bhZ (σ.1.2.2 t.toNat) k) 25 (Nat.le_refl _) with ⟨q, w⟩ | ⟨j, j1, j2, j3, j4, j5⟩
    · have := w i i1
      rw [i2] at this
      exact absurd c this
    · have b1 := phZ_b (k := (j : Int)) (by omega)
      have j6 := j5 i i1 (by rw [i2]; exact c)
      rw [i2] at j6
      have e : a_bestPhase σ t k o - 100 = phZ (j : Int) := by rw [hbp, j2]; omega
      have m2 := h.mf h2 (f := phZ (j : Int)) b1
      rw [itC_t j4] at m2
      rw [e, m1, m2]
      refine Or.inr ⟨mb, by omega, j6.1, ?_⟩
      by_cases c2 : mfZ (σ.1.2.2 t.toNat) (σ.1.2.2 o.toNat) (ahZ (σ.1.2.2 t.toNat) k) (bhZ (σ.1.2.2 t.toNat) k) (phZ (j : Int)) = mfZ (σ.1.2.2 t.toNat) (σ.1.2.2 o.toNat) (ahZ (σ.1.2.2 t.toNat) k) (bhZ (σ.1.2.2 t.toNat) k) f
      · have p := phZ_le (j6.2 c2)
        rw [i2] at p
        exact Or.inr (by omega)
      · exact Or.inl (by have := j6.1; omega)
  · have m1 := h.mf h2 hf
    rw [itC_f c] at m1
    refine Or.inl ⟨m1, fun q => ?_⟩
    rcases bs_all h h2 with w | w
    · omega
    · rw [show a_bestPhase σ t k o - 100 = f by omega] at w
      exact c w.2
/-! the gauge when it is mended: the same gaps -/
theorem nthZ_congr {q r : Nat → Prop} [DecidablePred q] [DecidablePred r] {k : Int} : ∀ n : Nat, (∀ j, j < n → (q j ↔ r j)) → nthZ q k n = nthZ r k n := by
  intro n
  induction n with
  | zero => intro _; rfl
  | succ n ih =>
    intro h
    have e1 := ih (fun j hj => h j (by omega))
    have e2 := cntZ_congr (n := n) (fun j hj => h j (by omega))
    show (if nthZ q k n = -1 then (if q n ∧ cntZ q n = k then (n : Int) else -1) else nthZ q k n) = (if nthZ r k n = -1 then (if r n ∧ cntZ r n = k then (n : Int) else -1) else nthZ r k n)
    rw [e1, e2]
    have e3 : (if q n ∧ cntZ r n = k then (n : Int) else -1) = (if r n ∧ cntZ r n = k then (n : Int) else -1) := by
      by_cases c : q n ∧ cntZ r n = k
      · rw [if_pos c, if_pos ⟨(h n (by omega)).mp c.1, c.2⟩]
      · rw [if_neg c, if_neg (fun w => c ⟨(h n (by omega)).mpr w.1, w.2⟩)]
    rw [e3]
theorem md_k {d o : GD} {a b f h : Int} (hab : -1 ≤ a ∧ b ≤ 120) : kindZ (mdG d o a b f) h = if a < h ∧ h < b then 2 else kindZ d h := by
  by_cases hz : 0 ≤ h ∧ h < 120
  · have e1 : kindZ (mdG d o a b f) h = (mdK d a b h.toNat).toInt := kz_in hz
    have e2 := kz_in (d := d) hz
    rw [e1, e2]
    unfold mdK
    rw [show ((h.toNat : Nat) : Int) = h by omega]
    by_cases c : a < h ∧ h < b
    · rw [if_pos c, if_pos c]
      rfl
    · rw [if_neg c, if_neg c]
  · have e1 : kindZ (mdG d o a b f) h = 3 := if_neg hz
    have e2 : kindZ d h = 3 := if_neg hz
    rw [e1, e2, if_neg (by omega)]
theorem md_2 {d o : GD} {a b f : Int} {j : Nat} (h : (d.2.1 j).toInt = 2) : ((mdG d o a b f).2.1 j).toInt = 2 := by
  have e1 : (mdG d o a b f).2.1 j = mdK d a b j := rfl
  rw [e1]
  unfold mdK
  split
  · rfl
  · exact h
theorem md_v {d o : GD} {a b f h : Int} (hz : 0 ≤ h ∧ h < 120) (c : a < h ∧ h < b) (hb : -61000 ≤ mdZ d o a b f h ∧ mdZ d o a b f h ≤ 61000) : readZ (mdG d o a b f) h = mdZ d o a b f h := by
  have e1 : readZ (mdG d o a b f) h = (mdV d o a b f b h.toNat).toInt := rz_in hz
  rw [e1]
  unfold mdV
  rw [show ((h.toNat : Nat) : Int) = h by omega, if_pos c, zi_ofI (by omega)]
theorem md_ig {d o : GD} {a b f : Int} (hab : -1 ≤ a ∧ b ≤ 120) (hin : ∀ h : Int, a < h → h < b → igP d h) (h : Int) : igP (mdG d o a b f) h ↔ igP d h := by
  by_cases c : a < h ∧ h < b
  · have w := hin h c.1 c.2
    unfold igP at w ⊢
    rw [md_k hab, if_pos c]
    constructor <;> intro _ <;> omega
  · unfold igP
    rw [md_k hab, if_neg c]
theorem md_fg {d o : GD} {a b f k : Int} (hab : -1 ≤ a ∧ b ≤ 120) (hin : ∀ h : Int, a < h → h < b → igP d h) : fgZ (mdG d o a b f) k = fgZ d k := by
  unfold fgZ
  refine nthZ_congr 120 (fun j hj => ?_)
  show (igP (mdG d o a b f) (j : Int) ∧ ¬ igP (mdG d o a b f) ((j : Int) - 1)) ↔ (igP d (j : Int) ∧ ¬ igP d ((j : Int) - 1))
  rw [md_ig hab hin, md_ig hab hin]
theorem md_hb {d o : GD} {a b f : Int} (hab : -1 ≤ a ∧ b ≤ 120) (hin : ∀ h : Int, a < h → h < b → igP d h) : ∀ (n : Nat) (h : Int), hbF (mdG d o a b f) n h = hbF d n h := by
  intro n
  induction n with
  | zero => intro h; rfl
  | succ n ih =>
    intro h
    show (if h < 120 ∧ igP (mdG d o a b f) h then hbF (mdG d o a b f) n (h + 1) else h) = (if h < 120 ∧ igP d h then hbF d n (h + 1) else h)
    by_cases c : h < 120 ∧ igP d h
    · rw [if_pos c, if_pos ⟨c.1, (md_ig hab hin h).mpr c.2⟩, ih]
    · rw [if_neg c, if_neg (fun w => c ⟨w.1, (md_ig hab hin h).mp w.2⟩)]
theorem sumZ_one {f : Int → Int} {a : Int} : ∀ n : Nat, (∀ i : Int, a ≤ i → i < a + n → f i = 1) → sumZ f a n = n := by
  intro n
  induction n with
  | zero => intro _; rfl
  | succ n ih =>
    intro h
    show sumZ f a n + f (a + n) = _
    rw [ih (fun i x y => h i x (by omega)), h _ (by omega) (by omega)]
    omega
theorem cntZ_sub {q r : Nat → Prop} [DecidablePred q] [DecidablePred r] (h : ∀ j, q j → r j) (n : Nat) : cntZ q n ≤ cntZ r n := by
  induction n with
  | zero => exact Int.le_refl _
  | succ n ih =>
    show cntZ q n + (if q n then 1 else 0) ≤ cntZ r n + (if r n then 1 else 0)
    by_cases c : q n
    · rw [if_pos c, if_pos (h n c)]
      omega
    · rw [if_neg c]
      split <;> omega
/-- the best phase as a number -/
noncomputable def bfZ (σ : FD) (t k o : Int) : Int := a_bestPhase σ t k o - 100
/-- what stands when the best phase is there -/
def ME (σ : FD) (t k o : Int) : Prop := MC σ t k o ∧ inP (σ.1.2.2 t.toNat) k ∧ (-12 ≤ bfZ σ t k o ∧ bfZ σ t k o ≤ 12) ∧ rdP (σ.1.2.2 o.toNat) (ahZ (σ.1.2.2 t.toNat) k + bfZ σ t k o) (bhZ (σ.1.2.2 t.toNat) k + bfZ σ t k o)
theorem ME.of {σ : FD} {t k o : Int} (h : MC σ t k o) (h2 : a_gap σ t k 2 ≠ 0) (h3 : 0 ≤ a_bestPhase σ t k o) : ME σ t k o := by
  rcases bs_all h h2 with w | w
  · omega
  · refine ⟨h, h.inn h2, ?_, w.2⟩
    unfold bfZ
    omega
theorem ME.pos {σ : FD} {t k o : Int} (h : ME σ t k o) : (a_gap σ t k 0 - 1 = ahZ (σ.1.2.2 t.toNat) k ∧ a_gap σ t k 1 + 1 = bhZ (σ.1.2.2 t.toNat) k) ∧ (0 ≤ ahZ (σ.1.2.2 t.toNat) k ∧ ahZ (σ.1.2.2 t.toNat) k + 1 < bhZ (σ.1.2.2 t.toNat) k ∧ bhZ (σ.1.2.2 t.toNat) k < σ.1.1.toInt) ∧ kindZ (σ.1.2.2 t.toNat) (ahZ (σ.1.2.2 t.toNat) k) = 0 ∧ kindZ (σ.1.2.2 t.toNat) (bhZ (σ.1.2.2 t.toNat) k) = 0 := by
  obtain ⟨⟨hx, ht, ho, hne, hk⟩, hi, hf, hr⟩ := h
  have hg := hx.1.1.2.2 t.toNat (by omega)
  have hn := hx.1.1.1
  have g := (gp_all hx ht hk).1
  have hff : fgZ (σ.1.2.2 t.toNat) k ≠ -1 := gap_iff.mp (by omega)
  have b := gp_b hg hn.2 hff
  have w := (in_iff hg hn.2 hff).mp hi
  refine ⟨?_, ?_, hi.1, hi.2⟩
  · unfold ahZ bhZ
    omega
  · unfold ahZ bhZ
    omega
/-- the gap's hours -/
theorem ME.igs {σ : FD} {t k o : Int} (_ : ME σ t k o) : ∀ h : Int, ahZ (σ.1.2.2 t.toNat) k < h → h < bhZ (σ.1.2.2 t.toNat) k → igP (σ.1.2.2 t.toNat) h := fun h a b => by
  unfold ahZ at a
  unfold bhZ at b
  exact hb_in (h := fgZ (σ.1.2.2 t.toNat) k) (by omega) b
theorem ME.ck0 {σ : FD} {t k o : Int} (h : ME σ t k o) : ckZ σ t k o (bfZ σ t k o) = 0 := by
  have hc := h.1.ck h.2.2.1
  rw [if_pos h.2.1] at hc
  exact hc
theorem ME.am {σ : FD} {t k o : Int} (h : ME σ t k o) : a_mend σ t k o (bfZ σ t k o) = bhZ (σ.1.2.2 t.toNat) k - ahZ (σ.1.2.2 t.toNat) k - 1 := by
  have hc := h.ck0
  unfold a_mend
  rw [if_neg (by omega), itC_t h.2.2.2]
theorem ME.sm {σ : FD} {t k o : Int} (h : ME σ t k o) : s_mend σ t k o (bfZ σ t k o) = actF σ (setGF σ t (mdG (σ.1.2.2 t.toNat) (σ.1.2.2 o.toNat) (ahZ (σ.1.2.2 t.toNat) k) (bhZ (σ.1.2.2 t.toNat) k) (bfZ σ t k o))) := by
  unfold s_mend
  exact itC_t ⟨h.ck0, h.2.2.2⟩
theorem ME.hr {σ : FD} {t k o : Int} (h : ME σ t k o) : (s_mend σ t k o (bfZ σ t k o)).1.1.toInt = σ.1.1.toInt := by
  rw [h.sm]
theorem ME.gt {σ : FD} {t k o : Int} (h : ME σ t k o) : (s_mend σ t k o (bfZ σ t k o)).1.2.2 t.toNat = mdG (σ.1.2.2 t.toNat) (σ.1.2.2 o.toNat) (ahZ (σ.1.2.2 t.toNat) k) (bhZ (σ.1.2.2 t.toNat) k) (bfZ σ t k o) := by
  rw [h.sm]
  show va_up σ.1.2.2 t.toNat _ t.toNat = _
  rw [va_up_self]
theorem ME.go {σ : FD} {t k o : Int} (h : ME σ t k o) : (s_mend σ t k o (bfZ σ t k o)).1.2.2 o.toNat = σ.1.2.2 o.toNat := by
  have h1 := h.1.2.1
  have h2 := h.1.2.2.1
  have h3 := h.1.2.2.2.1
  rw [h.sm]
  show va_up σ.1.2.2 t.toNat _ o.toNat = _
  rw [va_up_ne _ _ (by omega)]
theorem ME.ab {σ : FD} {t k o : Int} (h : ME σ t k o) : -1 ≤ ahZ (σ.1.2.2 t.toNat) k ∧ bhZ (σ.1.2.2 t.toNat) k ≤ 120 := by
  have := h.pos.2.1
  have := h.1.1.1.1.1
  omega
/-- how many hours of the gap are mended then -/
theorem ME.g3 {σ : FD} {t k o : Int} (h : ME σ t k o) : a_gap (s_mend σ t k o (bfZ σ t k o)) t k 3 = bhZ (σ.1.2.2 t.toNat) k - ahZ (σ.1.2.2 t.toNat) k - 1 := by
  have hff := h.1.f
  have hab := h.ab
  have hp := h.pos.2.1
  unfold a_gap
  rw [h.gt, md_fg hab h.igs, if_neg (fun q => q ⟨h.1.2.1, hff⟩)]
  have e : ∀ d : GD, gpW d k 3 = mwZ d (fgZ d k) (hbZ d (fgZ d k)) := fun d => gp_3
  rw [e, md_fg hab h.igs]
  have e2 : hbZ (mdG (σ.1.2.2 t.toNat) (σ.1.2.2 o.toNat) (ahZ (σ.1.2.2 t.toNat) k) (bhZ (σ.1.2.2 t.toNat) k) (bfZ σ t k o)) (fgZ (σ.1.2.2 t.toNat) k) = hbZ (σ.1.2.2 t.toNat) (fgZ (σ.1.2.2 t.toNat) k) := md_hb hab h.igs _ _
  rw [e2]
  unfold mwZ
  rw [sumZ_one]
  · unfold ahZ bhZ at *
    omega
  · intro i a b
    have c : ahZ (σ.1.2.2 t.toNat) k < i ∧ i < bhZ (σ.1.2.2 t.toNat) k := by
      unfold ahZ bhZ at *
      omega
    show (if kindZ _ i = 2 then (1 : Int) else 0) = 1
    rw [md_k hab, if_pos c]
    rfl
/-- how many hours are mended does not fall -/
theorem ME.up {σ : FD} {t k o : Int} (h : ME σ t k o) : a_station σ t 11 ≤ a_station (s_mend σ t k o (bfZ σ t k o)) t 11 := by
  have h1 := h.1.2.1
  rw [st_men h1, st_men h1, h.gt]
  unfold cntK
  exact cntZ_sub (fun j q => md_2 q) 120
/-- the shifts at both ends -/
theorem ME.ea {σ : FD} {t k o : Int} (h : ME σ t k o) : (a_hour σ t (ahZ (σ.1.2.2 t.toNat) k) 1 - a_hour σ o (ahZ (σ.1.2.2 t.toNat) k + bfZ σ t k o) 1 = mdE (σ.1.2.2 t.toNat) (σ.1.2.2 o.toNat) (ahZ (σ.1.2.2 t.toNat) k) (bfZ σ t k o) ∧ a_hour σ t (bhZ (σ.1.2.2 t.toNat) k) 1 - a_hour σ o (bhZ (σ.1.2.2 t.toNat) k + bfZ σ t k o) 1 = mdE (σ.1.2.2 t.toNat) (σ.1.2.2 o.toNat) (bhZ (σ.1.2.2 t.toNat) k) (bfZ σ t k o)) ∧
    ((0 ≤ a_hour σ t (ahZ (σ.1.2.2 t.toNat) k) 1 ∧ a_hour σ t (ahZ (σ.1.2.2 t.toNat) k) 1 ≤ 200000) ∧ (0 ≤ a_hour σ o (ahZ (σ.1.2.2 t.toNat) k + bfZ σ t k o) 1 ∧ a_hour σ o (ahZ (σ.1.2.2 t.toNat) k + bfZ σ t k o) 1 ≤ 200000) ∧ (0 ≤ a_hour σ t (bhZ (σ.1.2.2 t.toNat) k) 1 ∧ a_hour σ t (bhZ (σ.1.2.2 t.toNat) k) 1 ≤ 200000) ∧ (0 ≤ a_hour σ o (bhZ (σ.1.2.2 t.toNat) k + bfZ σ t k o) 1 ∧ a_hour σ o (bhZ (σ.1.2.2 t.toNat) k + bfZ σ t k o) 1 ≤ 200000)) := by
  have hp := h.pos
  obtain ⟨⟨hx, ht, ho, hne, hk⟩, hi, hf, hr⟩ := h
  have hn := hx.1.1.1
  have ka := hp.2.2.1
  have kb := hp.2.2.2
  have oa := hr (ahZ (σ.1.2.2 t.toNat) k + bfZ σ t k o) (by omega) (by omega)
  have ob := hr (bhZ (σ.1.2.2 t.toNat) k + bfZ σ t k o) (by omega) (by omega)
  have za := (kindZ_in (hx.1.1.2.2 o.toNat (by omega)) hn.2 oa).1
  have zb := (kindZ_in (hx.1.1.2.2 o.toNat (by omega)) hn.2 ob).1
  have a1 := hr_all hx ht (h := ahZ (σ.1.2.2 t.toNat) k) (by omega)
  have a2 := hr_all hx ho (h := ahZ (σ.1.2.2 t.toNat) k + bfZ σ t k o) za
  have a3 := hr_all hx ht (h := bhZ (σ.1.2.2 t.toNat) k) (by omega)
  have a4 := hr_all hx ho (h := bhZ (σ.1.2.2 t.toNat) k + bfZ σ t k o) zb
  unfold mdE
  omega
/-- an hour of the gap, when it is mended -/
theorem ME.hour {σ : FD} {t k o : Int} (h : ME σ t k o) {i : Int} (hi : ahZ (σ.1.2.2 t.toNat) k < i ∧ i < bhZ (σ.1.2.2 t.toNat) k) :
    a_hour (s_mend σ t k o (bfZ σ t k o)) t i 4 = 2 ∧
    a_hour (s_mend σ t k o (bfZ σ t k o)) t i 2 = a_hour (s_mend σ t k o (bfZ σ t k o)) o (i + bfZ σ t k o) 1 + mdE (σ.1.2.2 t.toNat) (σ.1.2.2 o.toNat) (ahZ (σ.1.2.2 t.toNat) k) (bfZ σ t k o) + (mdE (σ.1.2.2 t.toNat) (σ.1.2.2 o.toNat) (bhZ (σ.1.2.2 t.toNat) k) (bfZ σ t k o) - mdE (σ.1.2.2 t.toNat) (σ.1.2.2 o.toNat) (ahZ (σ.1.2.2 t.toNat) k) (bfZ σ t k o)) * (i - ahZ (σ.1.2.2 t.toNat) k) / (bhZ (σ.1.2.2 t.toNat) k - ahZ (σ.1.2.2 t.toNat) k) ∧
    (0 ≤ a_hour (s_mend σ t k o (bfZ σ t k o)) o (i + bfZ σ t k o) 1 ∧ a_hour (s_mend σ t k o (bfZ σ t k o)) o (i + bfZ σ t k o) 1 ≤ 200000) ∧ (0 ≤ a_hour (s_mend σ t k o (bfZ σ t k o)) t i 2 ∧ a_hour (s_mend σ t k o (bfZ σ t k o)) t i 2 ≤ 200000) := by
  have hp := h.pos
  have hab := h.ab
  have eh := h.hr
  have et := h.gt
  have eo := h.go
  have hx' := kx_mend (t := t) (k := k) (o := o) (f := bfZ σ t k o) h.1.1
  obtain ⟨⟨hx, ht, ho, hne, hk⟩, hin, hf, hr⟩ := h
  have hn := hx.1.1.1
  have hg := hx.1.1.2.2 t.toNat (by omega)
  have hgo := hx.1.1.2.2 o.toNat (by omega)
  have oi := hr (i + bfZ σ t k o) (by omega) (by omega)
  have zi := (kindZ_in hgo hn.2 oi).1
  have zb := mdZ_b (j := i) hn.2 hg hgo hp.2.2.1 hp.2.2.2 hr hi
  have c1 := cordZ_read hgo hn.2 oi
  have a1 := ah_in (σ := s_mend σ t k o (bfZ σ t k o)) (w := 4) (h := i) ht (by omega) (by omega)
  have a2 := ah_in (σ := s_mend σ t k o (bfZ σ t k o)) (w := 2) (h := i) ht (by omega) (by omega)
  have a3 := ah_in (σ := s_mend σ t k o (bfZ σ t k o)) (w := 1) (h := i + bfZ σ t k o) ho (by omega) (by omega)
  rw [et] at a1 a2
  rw [eo] at a3
  have k2 : kindZ (mdG (σ.1.2.2 t.toNat) (σ.1.2.2 o.toNat) (ahZ (σ.1.2.2 t.toNat) k) (bhZ (σ.1.2.2 t.toNat) k) (bfZ σ t k o)) i = 2 := by rw [md_k hab, if_pos hi]
  have v2 : valZ (mdG (σ.1.2.2 t.toNat) (σ.1.2.2 o.toNat) (ahZ (σ.1.2.2 t.toNat) k) (bhZ (σ.1.2.2 t.toNat) k) (bfZ σ t k o)) i = mdZ (σ.1.2.2 t.toNat) (σ.1.2.2 o.toNat) (ahZ (σ.1.2.2 t.toNat) k) (bhZ (σ.1.2.2 t.toNat) k) (bfZ σ t k o) i := by
    unfold valZ
    rw [if_pos k2]
    exact md_v (by omega) hi zb.2.2
  have e4 : ∀ d : GD, hrW d i 4 = kindZ d i := fun d => rfl
  have e2 : ∀ d : GD, hrW d i 2 = if kindZ d i = 2 then valZ d i + 100000 else -5 := fun d => rfl
  have e1 : ∀ d : GD, hrW d (i + bfZ σ t k o) 1 = if kindZ d (i + bfZ σ t k o) = 0 then cordZ d (i + bfZ σ t k o) + 100000 else -5 := fun d => rfl
  rw [e4, k2] at a1
  rw [e2, if_pos k2, v2] at a2
  rw [e1, if_pos oi] at a3
  have sh : shZ (mdE (σ.1.2.2 t.toNat) (σ.1.2.2 o.toNat) (bhZ (σ.1.2.2 t.toNat) k) (bfZ σ t k o) - mdE (σ.1.2.2 t.toNat) (σ.1.2.2 o.toNat) (ahZ (σ.1.2.2 t.toNat) k) (bfZ σ t k o)) (i - ahZ (σ.1.2.2 t.toNat) k) (bhZ (σ.1.2.2 t.toNat) k - ahZ (σ.1.2.2 t.toNat) k) = (mdE (σ.1.2.2 t.toNat) (σ.1.2.2 o.toNat) (bhZ (σ.1.2.2 t.toNat) k) (bfZ σ t k o) - mdE (σ.1.2.2 t.toNat) (σ.1.2.2 o.toNat) (ahZ (σ.1.2.2 t.toNat) k) (bfZ σ t k o)) * (i - ahZ (σ.1.2.2 t.toNat) k) / (bhZ (σ.1.2.2 t.toNat) k - ahZ (σ.1.2.2 t.toNat) k) := if_neg (by omega)
  have md : mdZ (σ.1.2.2 t.toNat) (σ.1.2.2 o.toNat) (ahZ (σ.1.2.2 t.toNat) k) (bhZ (σ.1.2.2 t.toNat) k) (bfZ σ t k o) i = cordZ (σ.1.2.2 o.toNat) (i + bfZ σ t k o) + mdE (σ.1.2.2 t.toNat) (σ.1.2.2 o.toNat) (ahZ (σ.1.2.2 t.toNat) k) (bfZ σ t k o) + shZ (mdE (σ.1.2.2 t.toNat) (σ.1.2.2 o.toNat) (bhZ (σ.1.2.2 t.toNat) k) (bfZ σ t k o) - mdE (σ.1.2.2 t.toNat) (σ.1.2.2 o.toNat) (ahZ (σ.1.2.2 t.toNat) k) (bfZ σ t k o)) (i - ahZ (σ.1.2.2 t.toNat) k) (bhZ (σ.1.2.2 t.toNat) k - ahZ (σ.1.2.2 t.toNat) k) := rfl
  rw [sh] at md
  have mz := zb.2.2
  exact ⟨a1, by rw [a2, a3, md]; omega, by rw [a3]; omega, by rw [a2]; omega⟩
