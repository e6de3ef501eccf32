/-! what the object tells of an hour, of a gap, of highs, in numbers that the law compares -/
theorem kz_at {d : GD} {j : Nat} (h : j < 120) : kindZ d (j : Int) = (d.2.1 j).toInt := by
  unfold kindZ rowZ
  rw [if_pos (by omega)]
  rw [show ((j : Int)).toNat = j by omega]
theorem kz_in {d : GD} {h : Int} (hh : 0 ≤ h ∧ h < 120) : kindZ d h = (d.2.1 h.toNat).toInt := if_pos hh
theorem rz_in {d : GD} {h : Int} (hh : 0 ≤ h ∧ h < 120) : readZ d h = (d.2.2.1 h.toNat).toInt := if_pos hh
theorem cz_in {d : GD} {h : Int} (hh : 0 ≤ h ∧ h < 120) : corrZ d h = (d.2.2.2 h.toNat).toInt := if_pos hh
theorem ah_in {σ : FD} {t h w : Int} (ht : 0 ≤ t ∧ t < 3) (hh : 0 ≤ h ∧ h < σ.1.1.toInt) (hw : 0 ≤ w ∧ w ≤ 4) : a_hour σ t h w = hrW (σ.1.2.2 t.toNat) h w := by
  unfold a_hour
  rw [if_neg (by omega), if_neg (by omega), if_neg (by omega)]
theorem as_in {σ : FD} {t w : Int} (ht : 0 ≤ t ∧ t < 3) : a_station σ t w = stW (σ.1.2.2 t.toNat) w := by
  unfold a_station
  rw [if_neg (by omega)]
/-- an hour that has passed -/
theorem hr_all {σ : FD} {t h : Int} (hx : fdX σ) (ht : 0 ≤ t ∧ t < 3) (hh : 0 ≤ h ∧ h < σ.1.1.toInt) :
    ((kindZ (σ.1.2.2 t.toNat) h = 0 ∧ a_hour σ t h 0 = readZ (σ.1.2.2 t.toNat) h + 100000 ∧ a_hour σ t h 1 = cordZ (σ.1.2.2 t.toNat) h + 100000 ∧ a_hour σ t h 2 = -5) ∨
     (kindZ (σ.1.2.2 t.toNat) h = 1 ∧ a_hour σ t h 0 = -5 ∧ a_hour σ t h 1 = -5 ∧ a_hour σ t h 2 = -5) ∨
     (kindZ (σ.1.2.2 t.toNat) h = 2 ∧ a_hour σ t h 0 = -5 ∧ a_hour σ t h 1 = -5 ∧ a_hour σ t h 2 = readZ (σ.1.2.2 t.toNat) h + 100000)) ∧
    (a_hour σ t h 3 = corrZ (σ.1.2.2 t.toNat) h ∧ a_hour σ t h 4 = kindZ (σ.1.2.2 t.toNat) h) ∧
    cordZ (σ.1.2.2 t.toNat) h = readZ (σ.1.2.2 t.toNat) h - corrZ (σ.1.2.2 t.toNat) h ∧
    (kindZ (σ.1.2.2 t.toNat) h = 1 ∨ (-90000 ≤ readZ (σ.1.2.2 t.toNat) h ∧ readZ (σ.1.2.2 t.toNat) h ≤ 90000)) ∧
    (0 ≤ corrZ (σ.1.2.2 t.toNat) h ∧ corrZ (σ.1.2.2 t.toNat) h ≤ 120 ∧ corrZ (σ.1.2.2 t.toNat) h ≤ a_station σ t 7) := by
  have hg := hx.1.1.2.2 t.toNat (by omega)
  have hn := hx.1.1.1
  have hxg := hx.2 t.toNat (by omega)
  have hk := kind_b hg hn.2 hh
  have h0 := ah_in (w := 0) ht hh (by omega)
  have h1 := ah_in (w := 1) ht hh (by omega)
  have h2 := ah_in (w := 2) ht hh (by omega)
  have h3 := ah_in (w := 3) ht hh (by omega)
  have h4 := ah_in (w := 4) ht hh (by omega)
  have h7 := as_in (σ := σ) (w := 7) ht
  have hz : 0 ≤ h ∧ h < 120 := by omega
  have k1 := kz_in (d := σ.1.2.2 t.toNat) hz
  have r1 := rz_in (d := σ.1.2.2 t.toNat) hz
  have c1 := cz_in (d := σ.1.2.2 t.toNat) hz
  have b1 := hg.2.2.2.2.2.1 h.toNat
  have b2 := hg.2.2.2.2.2.2.2.2 h.toNat
  have b3 := hxg.1 h.toNat
  have b4 := hxg.2 h.toNat
  generalize σ.1.2.2 t.toNat = D at *
  have e0 : hrW D h 0 = if kindZ D h = 0 then readZ D h + 100000 else -5 := rfl
  have e1 : hrW D h 1 = if kindZ D h = 0 then cordZ D h + 100000 else -5 := rfl
  have e2 : hrW D h 2 = if kindZ D h = 2 then valZ D h + 100000 else -5 := rfl
  have e3 : hrW D h 3 = corrZ D h := rfl
  have e4 : hrW D h 4 = kindZ D h := rfl
  have e7 : stW D 7 = (D.1 7).toInt := rfl
  rw [h0, h1, h2, h3, h4, h7, e0, e1, e2, e3, e4, e7]
  refine ⟨?_, ⟨rfl, rfl⟩, rfl, ?_, by omega⟩
  · rcases hk with q | q | q
    · refine Or.inl ⟨q, if_pos q, if_pos q, if_neg (by omega)⟩
    · refine Or.inr (Or.inl ⟨q, if_neg (by omega), if_neg (by omega), if_neg (by omega)⟩)
    · refine Or.inr (Or.inr ⟨q, if_neg (by omega), if_neg (by omega), ?_⟩)
      rw [if_pos q]
      unfold valZ
      rw [if_pos q]
  · rcases hk with q | q | q
    · have := b2 (by omega)
      exact Or.inr (by omega)
    · exact Or.inl q
    · have := b4 (by omega)
      exact Or.inr (by omega)
theorem hr_end {σ : FD} {t w : Int} (hx : fdX σ) (ht : 0 ≤ t ∧ t < 3) (hw : 0 ≤ w ∧ w ≤ 4) : a_hour σ t σ.1.1.toInt w = -5 := by
  have hn := hx.1.1.1
  unfold a_hour
  rw [if_neg (by omega), if_neg (by omega), if_pos (Int.le_refl _)]
/-! counting hours -/
theorem ck_n {d : GD} {n k : Int} (hd : gaugeOk d n) (hn : 0 ≤ n ∧ n ≤ 120) (hk : k ≠ 3) : cntK d k = cntZ (fun j => kindZ d (j : Int) = k) n.toNat := by
  unfold cntK
  rw [cntZ_congr (r := fun j => kindZ d (j : Int) = k) (fun j hj => by rw [kz_at hj])]
  refine cntZ_tail (by omega) (fun j a b => ?_)
  rw [kind_out hd hn.2 (by omega)]
  omega
theorem cn_all {d : GD} {n : Int} (hd : gaugeOk d n) (hn : 0 ≤ n ∧ n ≤ 120) : ∀ m : Nat, (m : Int) ≤ n → cntZ (fun j => kindZ d (j : Int) = 0) m + (cntZ (fun j => kindZ d (j : Int) = 1) m + cntZ (fun j => kindZ d (j : Int) = 2) m) = m ∧ cntZ (fun j => kindZ d (j : Int) = 0) m + cntZ (fun j => igP d (j : Int)) m = m := by
  intro m
  induction m with
  | zero => intro _; exact ⟨rfl, rfl⟩
  | succ m ih =>
    intro hm
    have := ih (by omega)
    have hk := kind_b (h := (m : Int)) hd hn.2 (by omega)
    show (cntZ _ m + (if kindZ d (m : Int) = 0 then 1 else 0)) + ((cntZ _ m + (if kindZ d (m : Int) = 1 then 1 else 0)) + (cntZ _ m + (if kindZ d (m : Int) = 2 then 1 else 0))) = ((m + 1 : Nat) : Int) ∧ (cntZ _ m + (if kindZ d (m : Int) = 0 then 1 else 0)) + (cntZ _ m + (if igP d (m : Int) then 1 else 0)) = ((m + 1 : Nat) : Int)
    rcases hk with q | q | q
    · rw [if_pos q, if_neg (by omega), if_neg (by omega), if_neg (show ¬ igP d (m : Int) by unfold igP; omega)]
      omega
    · rw [if_neg (by omega), if_pos q, if_neg (by omega), if_pos (show igP d (m : Int) from Or.inl q)]
      omega
    · rw [if_neg (by omega), if_neg (by omega), if_pos q, if_pos (show igP d (m : Int) from Or.inr q)]
      omega
theorem ck_sum {d : GD} {n : Int} (hd : gaugeOk d n) (hn : 0 ≤ n ∧ n ≤ 120) : cntK d 0 + (cntK d 1 + cntK d 2) = n := by
  rw [ck_n hd hn (by omega), ck_n hd hn (by omega), ck_n hd hn (by omega)]
  have := (cn_all hd hn n.toNat (by omega)).1
  omega
theorem ac_sum {σ : FD} (hx : fdOk σ) : a_count σ 2 + a_count σ 3 = 3 * a_count σ 0 := by
  have hn := hx.1.1
  have g0 := ck_sum (hx.1.2.2 0 (by omega)) hn
  have g1 := ck_sum (hx.1.2.2 1 (by omega)) hn
  have g2 := ck_sum (hx.1.2.2 2 (by omega)) hn
  show allK σ.1 0 + (allK σ.1 1 + allK σ.1 2) = 3 * σ.1.1.toInt
  have e : ∀ k : Int, allK σ.1 k = 0 + cntK (σ.1.2.2 0) k + cntK (σ.1.2.2 1) k + cntK (σ.1.2.2 2) k := fun k => rfl
  rw [e, e, e]
  omega
theorem ac_b {σ : FD} (hx : fdOk σ) : (0 ≤ a_count σ 0 ∧ a_count σ 0 ≤ 120) ∧ a_count σ 0 = σ.1.1.toInt ∧ (0 ≤ a_count σ 2 ∧ a_count σ 2 ≤ 360) ∧ (0 ≤ a_count σ 3 ∧ a_count σ 3 ≤ 720) := by
  have hn := hx.1.1
  have h0 := hkN_b σ.1.2.2 0 3
  have h1 := hkN_b σ.1.2.2 1 3
  have h2 := hkN_b σ.1.2.2 2 3
  refine ⟨hn, rfl, ?_, ?_⟩
  · show 0 ≤ hkN σ.1.2.2 0 3 ∧ hkN σ.1.2.2 0 3 ≤ 360
    omega
  · show 0 ≤ hkN σ.1.2.2 1 3 + hkN σ.1.2.2 2 3 ∧ hkN σ.1.2.2 1 3 + hkN σ.1.2.2 2 3 ≤ 720
    omega
/-! gaps, one behind the other -/
theorem ig_no {d : GD} {a b : Int} (h0 : ¬ igP d (a - 1) ∨ ¬ igP d a) (hs : ∀ h : Int, a ≤ h → h < b → ¬ sgP d h) : ∀ (m : Nat) (h : Int), h = a + m → h < b → ¬ igP d h := by
  intro m
  induction m with
  | zero =>
    intro h e hb c
    have e2 : h = a := by omega
    rw [e2] at c
    rcases h0 with q | q
    · exact hs a (Int.le_refl _) (by omega) ⟨c, q⟩
    · exact q c
  | succ m ih =>
    intro h e hb c
    exact hs h (by omega) hb ⟨c, ih (h - 1) (by omega) (by omega)⟩
theorem ig_none {d : GD} {a b : Int} (h0 : ¬ igP d (a - 1) ∨ ¬ igP d a) (hs : ∀ h : Int, a ≤ h → h < b → ¬ sgP d h) {h : Int} (h1 : a ≤ h) (h2 : h < b) : ¬ igP d h := ig_no h0 hs (h - a).toNat h (by omega) h2
theorem hb_all {d : GD} : ∀ (n : Nat) (h j : Int), h ≤ j → j < hbF d n h → igP d j := by
  intro n
  induction n with
  | zero =>
    intro h j a b
    have b2 : j < h := b
    omega
  | succ n ih =>
    intro h j a b
    have b2 : j < (if h < 120 ∧ igP d h then hbF d n (h + 1) else h) := b
    by_cases c : h < 120 ∧ igP d h
    · rw [if_pos c] at b2
      by_cases e : j = h
      · rw [e]
        exact c.2
      · exact ih (h + 1) j (by omega) b2
    · rw [if_neg c] at b2
      omega
theorem hb_in {d : GD} {h j : Int} (a : h ≤ j) (b : j < hbZ d h) : igP d j := hb_all _ h j a b
theorem hb_end {d : GD} : ∀ (n : Nat) (h : Int), (120 - h).toNat ≤ n → ¬ (hbZ d h < 120 ∧ igP d (hbZ d h)) := by
  intro n
  induction n with
  | zero =>
    intro h a
    have c : ¬ (h < 120 ∧ igP d h) := by omega
    rw [hbZ_f c]
    exact c
  | succ n ih =>
    intro h a
    by_cases c : h < 120 ∧ igP d h
    · rw [hbZ_t c.1 c.2]
      exact ih (h + 1) (by omega)
    · rw [hbZ_f c]
      exact c
theorem cntZ_fill {q : Nat → Prop} [DecidablePred q] {a b : Nat} (hab : a ≤ b) (h : ∀ j, a ≤ j → j < b → q j) : cntZ q b = cntZ q a + ((b : Int) - a) := by
  induction b with
  | zero =>
    rw [show a = 0 by omega]
    omega
  | succ b ih =>
    rcases Nat.lt_or_ge a (b + 1) with g | g
    · show cntZ q b + (if q b then 1 else 0) = _
      rw [if_pos (h b (by omega) (by omega)), ih (by omega) (fun j x y => h j x (by omega))]
      omega
    · rw [show a = b + 1 by omega]
      omega
/-- where the row of gaps stands behind the first k of them -/
def glo (d : GD) (k : Nat) : Int := match k with | 0 => 0 | k + 1 => hbZ d (fgZ d (k : Int))
theorem fg_cnt {d : GD} {k : Int} (h : fgZ d k ≠ -1) : cntZ (fun j => sgP d (j : Int)) (fgZ d k).toNat = k := (nthZ_spec (q := fun j => sgP d (j : Int)) (k := k) (n := 120) rfl h).2.2.2
/-- no hour between two gaps is in one -/
theorem gl_no {d : GD} {k : Nat} {b : Int} (hk : (k : Int) ≤ gapsZ d) (hb0 : 0 ≤ b ∧ b ≤ 120) (hb : cntZ (fun j => sgP d (j : Int)) b.toNat = k) : ∀ h : Int, glo d k ≤ h → h < b → ¬ igP d h := by
  intro h a c
  have hs : ∀ h : Int, glo d k ≤ h → h < b → ¬ sgP d h := by
    intro h a c s
    cases k with
    | zero =>
      have a2 : 0 ≤ h := a
      have u := cntZ_up (q := fun j => sgP d (j : Int)) (j := h.toNat) (n := b.toNat) (by show sgP d ((h.toNat : Nat) : Int); rw [show ((h.toNat : Nat) : Int) = h by omega]; exact s) (by omega)
      have := (cntZ_b (fun j => sgP d (j : Int)) h.toNat).1
      omega
    | succ k =>
      have a2 : hbZ d (fgZ d (k : Int)) ≤ h := a
      have hf : fgZ d (k : Int) ≠ -1 := gap_iff.mp (by omega)
      obtain ⟨f1, f2, f3, f4, f5⟩ := fg_spec hf
      have f6 := fg_cnt hf
      have f7 := hbZ_t f2 f3.1
      have f8 := hbZ_b d (h := fgZ d (k : Int) + 1) (by omega)
      have u0 := cntZ_up (q := fun j => sgP d (j : Int)) (j := (fgZ d (k : Int)).toNat) (n := h.toNat) (by show sgP d (((fgZ d (k : Int)).toNat : Nat) : Int); rw [show (((fgZ d (k : Int)).toNat : Nat) : Int) = fgZ d (k : Int) by omega]; exact f3) (by omega)
      have u := cntZ_up (q := fun j => sgP d (j : Int)) (j := h.toNat) (n := b.toNat) (by show sgP d ((h.toNat : Nat) : Int); rw [show ((h.toNat : Nat) : Int) = h by omega]; exact s) (by omega)
      omega
  refine ig_none ?_ hs a c
  cases k with
  | zero =>
    refine Or.inl ?_
    have e : kindZ d (glo d 0 - 1) = 3 := rfl
    unfold igP
    omega
  | succ k =>
    refine Or.inr (fun q => ?_)
    have e := hb_end (d := d) (120 - fgZ d (k : Int)).toNat (fgZ d (k : Int)) (Nat.le_refl _)
    have a2 : hbZ d (fgZ d (k : Int)) ≤ h := a
    exact e ⟨by omega, q⟩
theorem glo_b {d : GD} {n : Int} (hd : gaugeOk d n) (hn : 0 ≤ n ∧ n ≤ 120) {k : Nat} (hk : (k : Int) ≤ gapsZ d) : 0 ≤ glo d k ∧ glo d k ≤ n := by
  cases k with
  | zero =>
    show (0 : Int) ≤ 0 ∧ (0 : Int) ≤ n
    omega
  | succ k =>
    have hf : fgZ d (k : Int) ≠ -1 := gap_iff.mp (by omega)
    have h := gp_b hd hn.2 hf
    show 0 ≤ hbZ d (fgZ d (k : Int)) ∧ hbZ d (fgZ d (k : Int)) ≤ n
    omega
def gwZ (d : GD) (k : Int) : Int := hbZ d (fgZ d k) - fgZ d k
theorem gl_sum {d : GD} {n : Int} (hd : gaugeOk d n) (hn : 0 ≤ n ∧ n ≤ 120) : ∀ k : Nat, (k : Int) ≤ gapsZ d → sumZ (gwZ d) 0 k = cntZ (fun j => igP d (j : Int)) (glo d k).toNat := by
  intro k
  induction k with
  | zero => intro _; rfl
  | succ k ih =>
    intro hk
    have hf : fgZ d (k : Int) ≠ -1 := gap_iff.mp (by omega)
    have hb := gp_b hd hn.2 hf
    have hc := fg_cnt hf
    have hl := glo_b hd hn (k := k) (by omega)
    have hno := gl_no (d := d) (k := k) (b := fgZ d (k : Int)) (by omega) (by omega) hc
    have hle : glo d k ≤ fgZ d (k : Int) := by
      cases k with
      | zero =>
        show (0 : Int) ≤ _
        omega
      | succ k =>
        have hf0 : fgZ d (k : Int) ≠ -1 := gap_iff.mp (by omega)
        have hb0 := gp_b hd hn.2 hf0
        have hc0 := fg_cnt hf0
        show hbZ d (fgZ d (k : Int)) ≤ fgZ d ((k + 1 : Nat) : Int)
        refine Int.not_lt.mp (fun q => ?_)
        have s := (fg_spec hf).2.2.1
        by_cases c : fgZ d (k : Int) < fgZ d ((k + 1 : Nat) : Int)
        · exact s.2 (hb_in (h := fgZ d (k : Int)) (by omega) (by omega))
        · have m := cntZ_mono (fun j => sgP d (j : Int)) (a := (fgZ d ((k + 1 : Nat) : Int)).toNat) (b := (fgZ d (k : Int)).toNat) (by omega)
          omega
    have t1 := cntZ_tail (q := fun j => igP d (j : Int)) (a := (glo d k).toNat) (b := (fgZ d (k : Int)).toNat) (by omega) (fun j a b => hno (j : Int) (by omega) (by omega))
    have t2 := cntZ_fill (q := fun j => igP d (j : Int)) (a := (fgZ d (k : Int)).toNat) (b := (hbZ d (fgZ d (k : Int))).toNat) (by omega) (fun j a b => hb_in (h := fgZ d (k : Int)) (j := (j : Int)) (by omega) (by omega))
    show sumZ (gwZ d) 0 k + gwZ d (0 + k) = cntZ (fun j => igP d (j : Int)) (hbZ d (fgZ d (k : Int))).toNat
    rw [ih (by omega), t2, ← t1, Int.zero_add]
    unfold gwZ
    omega
theorem gw_all {d : GD} {n : Int} (hd : gaugeOk d n) (hn : 0 ≤ n ∧ n ≤ 120) : cntZ (fun j => kindZ d (j : Int) = 0) n.toNat + sumZ (gwZ d) 0 (gapsZ d).toNat = n := by
  have hg0 := cntZ_b (fun j => sgP d (j : Int)) 120
  have hg : 0 ≤ gapsZ d := hg0.1
  have h1 := gl_sum hd hn (gapsZ d).toNat (by omega)
  have hl := glo_b hd hn (k := (gapsZ d).toNat) (by omega)
  have hno := gl_no (d := d) (k := (gapsZ d).toNat) (b := n) (by omega) (by omega) (by rw [gapsZ_n hd hn]; omega)
  have t1 := cntZ_tail (q := fun j => igP d (j : Int)) (a := (glo d (gapsZ d).toNat).toNat) (b := n.toNat) (by omega) (fun j a b => hno (j : Int) (by omega) (by omega))
  have t2 := (cn_all hd hn n.toNat (by omega)).2
  omega
theorem hw_4 {d : GD} {h : Int} : hrW d h 4 = kindZ d h := rfl
theorem gp_0 {d : GD} {k : Int} : gpW d k 0 = fgZ d k := by
  unfold gpW
  exact if_pos rfl
theorem gp_1 {d : GD} {k : Int} : gpW d k 1 = hbZ d (fgZ d k) - 1 := by
  unfold gpW
  rw [if_neg (by omega), if_pos rfl]
theorem gp_2 {d : GD} {k : Int} : gpW d k 2 = if inP d k then 1 else 0 := by
  unfold gpW
  rw [if_neg (by omega), if_neg (by omega), if_pos rfl]
theorem gp_3 {d : GD} {k : Int} : gpW d k 3 = mwZ d (fgZ d k) (hbZ d (fgZ d k)) := by
  unfold gpW
  rw [if_neg (by omega), if_neg (by omega), if_neg (by omega), if_pos rfl]
/-- what is told of a gap -/
theorem gp_all {σ : FD} {t k : Int} (hx : fdX σ) (ht : 0 ≤ t ∧ t < 3) (hk : 0 ≤ k ∧ k < gapsZ (σ.1.2.2 t.toNat)) :
    (a_gap σ t k 0 = fgZ (σ.1.2.2 t.toNat) k ∧ a_gap σ t k 1 = hbZ (σ.1.2.2 t.toNat) (fgZ (σ.1.2.2 t.toNat) k) - 1) ∧
    (0 ≤ a_gap σ t k 0 ∧ a_gap σ t k 0 ≤ a_gap σ t k 1 ∧ a_gap σ t k 1 < σ.1.1.toInt) ∧
    ((a_gap σ t k 2 = 1 ∧ 0 < a_gap σ t k 0 ∧ a_gap σ t k 1 < σ.1.1.toInt - 1) ∨ (a_gap σ t k 2 = 0 ∧ ¬ (0 < a_gap σ t k 0 ∧ a_gap σ t k 1 < σ.1.1.toInt - 1))) ∧
    (a_gap σ t k 0 = 0 ∨ a_hour σ t (a_gap σ t k 0 - 1) 4 = 0) ∧ (a_gap σ t k 1 = σ.1.1.toInt - 1 ∨ a_hour σ t (a_gap σ t k 1 + 1) 4 = 0) := by
  have hg := hx.1.1.2.2 t.toNat (by omega)
  have hn := hx.1.1.1
  have hf : fgZ (σ.1.2.2 t.toNat) k ≠ -1 := gap_iff.mp (by omega)
  have hb := gp_b hg hn.2 hf
  have hi := in_iff hg hn.2 hf
  have e : ∀ w : Int, a_gap σ t k w = gpW (σ.1.2.2 t.toNat) k w := fun w => by
    unfold a_gap
    rw [if_neg (fun q => q ⟨ht, hf⟩)]
  have e0 : gpW (σ.1.2.2 t.toNat) k 0 = fgZ (σ.1.2.2 t.toNat) k := gp_0
  have e1 : gpW (σ.1.2.2 t.toNat) k 1 = hbZ (σ.1.2.2 t.toNat) (fgZ (σ.1.2.2 t.toNat) k) - 1 := gp_1
  have e2 : gpW (σ.1.2.2 t.toNat) k 2 = if inP (σ.1.2.2 t.toNat) k then 1 else 0 := gp_2
  rw [e, e, e, e0, e1, e2]
  refine ⟨⟨rfl, rfl⟩, by omega, ?_, ?_, ?_⟩
  · by_cases c : inP (σ.1.2.2 t.toNat) k
    · rw [if_pos c]
      exact Or.inl ⟨rfl, hi.mp c⟩
    · rw [if_neg c]
      exact Or.inr ⟨rfl, fun q => c (hi.mpr q)⟩
  · have s := (sg_iff hg hn.2).mp (fg_spec hf).2.2.1
    rcases s.2.2 with q | q
    · exact Or.inl q
    · have z := (kindZ_in hg hn.2 q).1
      refine Or.inr ?_
      rw [ah_in ht z (by omega), hw_4]
      exact q
  · by_cases c : hbZ (σ.1.2.2 t.toNat) (fgZ (σ.1.2.2 t.toNat) k) < σ.1.1.toInt
    · refine Or.inr ?_
      have z := (hbZ_le hg hn.2 (σ.1.1.toInt - fgZ (σ.1.2.2 t.toNat) k).toNat (fgZ (σ.1.2.2 t.toNat) k) (Nat.le_refl _) (by omega)).2 c (by omega)
      rw [show hbZ (σ.1.2.2 t.toNat) (fgZ (σ.1.2.2 t.toNat) k) - 1 + 1 = hbZ (σ.1.2.2 t.toNat) (fgZ (σ.1.2.2 t.toNat) k) by omega, ah_in ht (by omega) (by omega), hw_4]
      exact z
    · exact Or.inl (by omega)
theorem gp_out {σ : FD} {t w : Int} (ht : 0 ≤ t ∧ t < 3) : a_gap σ t (gapsZ (σ.1.2.2 t.toNat)) w = -1 := by
  have hf : ¬ fgZ (σ.1.2.2 t.toNat) (gapsZ (σ.1.2.2 t.toNat)) ≠ -1 := fun q => by
    have := gap_iff.mpr q
    omega
  unfold a_gap
  rw [if_pos (fun q => hf q.2)]
def widZ (σ : FD) (t : Int) (n : Nat) : Int := sumZ (gwZ (σ.1.2.2 t.toNat)) 0 n
theorem wid_s {σ : FD} {t k : Int} (hx : fdX σ) (ht : 0 ≤ t ∧ t < 3) (hk : 0 ≤ k ∧ k < gapsZ (σ.1.2.2 t.toNat)) : widZ σ t (k + 1).toNat = widZ σ t k.toNat + (a_gap σ t k 1 - a_gap σ t k 0 + 1) := by
  have h := (gp_all hx ht hk).1
  rw [h.1, h.2]
  unfold widZ
  rw [show (k + 1).toNat = k.toNat + 1 by omega]
  show sumZ (gwZ (σ.1.2.2 t.toNat)) 0 k.toNat + gwZ (σ.1.2.2 t.toNat) (0 + ((k.toNat : Nat) : Int)) = _
  rw [show (0 : Int) + ((k.toNat : Nat) : Int) = k by omega]
  unfold gwZ
  omega
theorem wid_all {σ : FD} {t : Int} (hx : fdX σ) (ht : 0 ≤ t ∧ t < 3) : cntZ (fun j => kindZ (σ.1.2.2 t.toNat) (j : Int) = 0) σ.1.1.toInt.toNat + widZ σ t (gapsZ (σ.1.2.2 t.toNat)).toNat = σ.1.1.toInt ∧ a_station σ t 9 = cntZ (fun j => kindZ (σ.1.2.2 t.toNat) (j : Int) = 0) σ.1.1.toInt.toNat := by
  have hg := hx.1.1.2.2 t.toNat (by omega)
  have hn := hx.1.1.1
  refine ⟨gw_all hg hn, ?_⟩
  rw [as_in ht, ← ck_n hg hn (by omega)]
  rfl
theorem st_gaps {σ : FD} {t : Int} (ht : 0 ≤ t ∧ t < 3) : a_station σ t 10 = gapsZ (σ.1.2.2 t.toNat) ∧ 0 ≤ gapsZ (σ.1.2.2 t.toNat) ∧ gapsZ (σ.1.2.2 t.toNat) ≤ 120 := by
  have hg0 := cntZ_b (fun j => sgP (σ.1.2.2 t.toNat) (j : Int)) 120
  refine ⟨?_, hg0.1, hg0.2⟩
  rw [as_in ht]
  rfl
theorem st_men {σ : FD} {t : Int} (ht : 0 ≤ t ∧ t < 3) : a_station σ t 11 = cntK (σ.1.2.2 t.toNat) 2 := by
  rw [as_in ht]
  rfl
