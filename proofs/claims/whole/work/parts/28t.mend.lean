/-! a gap is mended, hour by hour -/
def mdP (d o : GD) (a b f i : Int) : GD := (d.1, mdK d a i, mdV d o a b f i, d.2.2.2)
theorem mdP_0 {d o : GD} {a b f i : Int} (h : i = a + 1) : mdP d o a b f i = d := by
  unfold mdP
  rw [mdK_0 (by omega), mdV_0 (by omega)]
theorem mdP_s {d o : GD} {a b f i : Int} {z : Int32} (h0 : 0 ≤ i) (h1 : a < i) (hz : z.toInt = mdZ d o a b f i) : ((mdP d o a b f i).1, upd (mdP d o a b f i).2.1 i.toNat 2, upd (mdP d o a b f i).2.2.1 i.toNat z, (mdP d o a b f i).2.2.2) = mdP d o a b f (i + 1) := by
  show (d.1, upd (mdK d a i) i.toNat 2, upd (mdV d o a b f i) i.toNat z, d.2.2.2) = _
  rw [mdK_s h0 h1, mdV_s h0 h1 hz]
  rfl
theorem mdP_ok {d o : GD} {a b f n i : Int} (hn : n ≤ 120) (hd : gaugeOk d n) (ho : gaugeOk o n) (ha : kindZ d a = 0) (hb : kindZ d b = 0) (hr : rdP o (a + f) (b + f)) (hab : a < b) (hi : i ≤ b) : gaugeOk (mdP d o a b f i) n := by
  have g := mdG_ok hn hd ho ha hb hr hab
  have hb1 := (kindZ_in hd hn hb).1
  have hm := g.2.2.2.2.1
  obtain ⟨h1, h2, h6, h8, h11, h12, h13, h14, h15⟩ := id hd
  refine ⟨h1, h2, h6, h8, fun j => ?_, h12, fun j hj => ?_, fun j hj => ?_, fun j hj => ?_⟩
  · have hj := hm j
    have hj2 : -1000000 ≤ (mdV d o a b f b j).toInt ∧ (mdV d o a b f b j).toInt ≤ 1000000 := hj
    show -1000000 ≤ (mdV d o a b f i j).toInt ∧ (mdV d o a b f i j).toInt ≤ 1000000
    unfold mdV at hj2 ⊢
    by_cases c : a < (j : Int) ∧ (j : Int) < i
    · rw [if_pos (by omega)] at hj2
      rw [if_pos c]
      exact hj2
    · rw [if_neg c]
      exact h11 j
  · show (mdK d a i j).toInt = 0 ∨ (mdK d a i j).toInt = 1 ∨ (mdK d a i j).toInt = 2
    unfold mdK
    split
    · exact Or.inr (Or.inr rfl)
    · exact h13 j hj
  · show (mdK d a i j).toInt = 3
    unfold mdK
    rw [if_neg (by omega)]
    exact h14 j hj
  · have hj2 : (mdK d a i j).toInt = 0 := hj
    show -20200 ≤ (mdV d o a b f i j).toInt ∧ (mdV d o a b f i j).toInt ≤ 20200
    unfold mdK at hj2
    split at hj2
    · exact absurd hj2 (by decide)
    · rename_i hn2
      unfold mdV
      rw [if_neg hn2]
      exact h15 j hj2
theorem mdP_kind {d o : GD} {a b f i : Int} : kindZ (mdP d o a b f i) i = kindZ d i := by
  unfold kindZ rowZ
  show (if 0 ≤ i ∧ i < 120 then (mdK d a i i.toNat).toInt else 3) = _
  by_cases c : 0 ≤ i ∧ i < 120
  · rw [if_pos c, if_pos c]
    unfold mdK
    rw [if_neg (by omega)]
  · rw [if_neg c, if_neg c]
/-- one hour is mended -/
theorem Rg.mend1 {c c' : Int → Int} {d : GD} {n i : Int} {z : Int32} (h : Rg c d n) (hi : 0 ≤ i ∧ i < 120) (hk : kindZ d i ≠ 0) (h1 : c' (369 + i) = 1) (h2 : c' (249 + i) = z.toInt) (h3 : ∀ v : Int, 0 ≤ v → v < 731 → v ≠ 369 + i → v ≠ 249 + i → c' v = c v) (hL : 0 ≤ (d.1 11).toInt ∧ (d.1 11).toInt ≤ 120) : Rg c' (d.1, upd d.2.1 i.toNat 2, upd d.2.2.1 i.toNat z, d.2.2.2) n := by
  refine ⟨fun k a b => (h3 k a (by omega) (by omega) (by omega)).trans (h.1 k a b), fun j a b => ?_, h.2.2.congr (fun w a b => h3 w (by omega) b (by omega) (by omega)) hL⟩
  obtain ⟨q1, q2, q3, q4⟩ := h.2.1 j a b
  have ek : kindZ (d.1, upd d.2.1 i.toNat 2, upd d.2.2.1 i.toNat z, d.2.2.2) j = (upd d.2.1 i.toNat 2 j.toNat).toInt := by
    unfold kindZ rowZ
    rw [if_pos (by omega)]
  have er : readZ (d.1, upd d.2.1 i.toNat 2, upd d.2.2.1 i.toNat z, d.2.2.2) j = (upd d.2.2.1 i.toNat z j.toNat).toInt := by
    unfold readZ rowZ
    rw [if_pos (by omega)]
  have ek0 : kindZ d j = (d.2.1 j.toNat).toInt := by
    unfold kindZ rowZ
    rw [if_pos (by omega)]
  have er0 : readZ d j = (d.2.2.1 j.toNat).toInt := by
    unfold readZ rowZ
    rw [if_pos (by omega)]
  rw [ek, er, h3 (129 + j) (by omega) (by omega) (by omega) (by omega), h3 (9 + j) (by omega) (by omega) (by omega) (by omega)]
  by_cases e : j = i
  · subst e
    rw [upd_at, upd_at, h1, h2, q1, if_neg hk]
    exact ⟨rfl, rfl, fun z => absurd z (by decide), fun _ => rfl⟩
  · rw [upd_ne (by omega), upd_ne (by omega), h3 (369 + j) (by omega) (by omega) (by omega) (by omega), h3 (249 + j) (by omega) (by omega) (by omega) (by omega), ← ek0, ← er0]
    exact ⟨q1, q2, q3, q4⟩
theorem hb_ig {d : GD} : ∀ (m : Nat) (b h : Int), (h - b).toNat ≤ m → b ≤ h → h < hbZ d b → igP d h := by
  intro m
  induction m with
  | zero =>
    intro b h h1 h2 h3
    rw [show h = b by omega] at h3 ⊢
    by_cases c : b < 120 ∧ igP d b
    · exact c.2
    · rw [hbZ_f c] at h3
      omega
  | succ m ih =>
    intro b h h1 h2 h3
    by_cases c : b < 120 ∧ igP d b
    · by_cases e : h = b
      · rw [e]
        exact c.2
      · rw [hbZ_t c.1 c.2] at h3
        exact ih (b + 1) h (by omega) (by omega) h3
    · rw [hbZ_f c] at h3
      omega
theorem Rs.mend1 {σ : FD} {s : Nat → Int32} {t a b f i : Int} {o : GD} {z : Int32} (h : Rs (setGF σ t (mdP (σ.1.2.2 t.toNat) o a b f i)) s) (hok : stOk (setGF σ t (mdP (σ.1.2.2 t.toNat) o a b f i))) (ht : 0 ≤ t ∧ t < 3) (hi : 0 ≤ i ∧ i < 120) (hai : a < i) (hk : kindZ (σ.1.2.2 t.toNat) i ≠ 0) (hz : z.toInt = mdZ (σ.1.2.2 t.toNat) o a b f i) : Rs (setGF σ t (mdP (σ.1.2.2 t.toNat) o a b f (i + 1))) (upd (upd s (10 + 731 * t + (369 + i)).toNat 1) (10 + 731 * t + (249 + i)).toNat z) := by
  have hL := hok.L (i := t.toNat) (by omega)
  have g0 := h.g ht
  have e0 : (setGF σ t (mdP (σ.1.2.2 t.toNat) o a b f i)).2.2 t.toNat = mdP (σ.1.2.2 t.toNat) o a b f i := va_up_self _ _ _
  rw [e0] at g0 hL
  have g1 := g0.mend1 (c' := fun w => cR (upd (upd s (10 + 731 * t + (369 + i)).toNat 1) (10 + 731 * t + (249 + i)).toNat z) t w) (z := z) hi (by rw [mdP_kind]; exact hk) (by
      show cR _ _ _ = 1
      rw [cR_ne ht ht (by omega) (by omega) (by omega), cR_at]
      rfl) (by
      show cR _ _ _ = _
      rw [cR_at]) (fun v x y e1 e2 => by
      show cR _ _ _ = cR _ _ _
      rw [cR_ne ht ht (by omega) (by omega) (by omega), cR_ne ht ht (by omega) (by omega) (by omega)]) hL
  rw [mdP_s hi.1 hai hz] at g1
  have r := h.gset hok ht ((sameBut.rf.up ht (by omega)).up ht (by omega)) g1
  refine r.to ?_
  show (σ.1.1, σ.1.2.1, va_up (va_up σ.1.2.2 t.toNat _) t.toNat _) = _
  rw [bx_uu]
theorem gz_id {σ : FD} {t : Int} : setGF σ t (σ.1.2.2 t.toNat) = σ.1 := by
  show (σ.1.1, σ.1.2.1, va_up σ.1.2.2 t.toNat (σ.1.2.2 t.toNat)) = σ.1
  rw [va_upF t.toNat (f := σ.1.2.2) (g := σ.1.2.2) (fun _ _ => rfl) rfl]
theorem Rs.oth {σ : FD} {s : Nat → Int32} {t u k : Int} {d : GD} {v : Int32} (h : Rs (setGF σ t d) s) (hok : stOk σ.1) (ht : 0 ≤ t ∧ t < 3) (hu : 0 ≤ u ∧ u < 3) (hk : 0 ≤ k ∧ k < 731) (hn : u ≠ t) : Rg (fun w => cR (upd s (10 + 731 * t + k).toNat v) u w) (σ.1.2.2 u.toNat) σ.1.1.toInt := by
  have g := h.g hu
  have e : (setGF σ t d).2.2 u.toNat = σ.1.2.2 u.toNat := va_up_ne _ _ (by omega)
  rw [e] at g
  exact g.congr (fun w a b => cR_ne ht hu hk ⟨a, b⟩ (Or.inl hn)) (hok.L (by omega))
