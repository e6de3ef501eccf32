/-! the reference reads a text -/
def Rt (t : TD) (μ : MD) : Prop := (μ.1 6).toInt = t.1.toInt ∧ ∀ j : Nat, (j : Int) < t.1.toInt → (μ.2.2.2.2 j).toInt = (t.2 j).toInt
def Mk (μ n : MD) : Prop := n.1 2 = μ.1 2 ∧ n.1 4 = μ.1 4 ∧ n.1 6 = μ.1 6 ∧ n.2.2 = μ.2.2
theorem Mk.tr {μ m n : MD} (h : Mk μ m) (g : Mk m n) : Mk μ n := ⟨g.1.trans h.1, g.2.1.trans h.2.1, g.2.2.1.trans h.2.2.1, g.2.2.2.trans h.2.2.2⟩
theorem Mk.rf {μ : MD} : Mk μ μ := ⟨rfl, rfl, rfl, rfl⟩
theorem Mf.mk {μ n : MD} (h : Mf μ n) : Mk μ n := ⟨by rw [h.1], by rw [h.1], by rw [h.1], h.2⟩
theorem Rt.mk {t : TD} {μ n : MD} (h : Rt t μ) (k : Mk μ n) : Rt t n := ⟨by rw [k.2.2.1]; exact h.1, by rw [k.2.2.2]; exact h.2⟩
theorem Rel.mk {σ : FD} {μ n : MD} (h : Rel σ μ) (k : Mk μ n) (e : n.2.1 = μ.2.1) : Rel σ n := by
  obtain ⟨h1, ⟨h2, h3⟩, ⟨h4, h5⟩, h6, h7⟩ := h
  obtain ⟨k1, k2, k3, k4⟩ := k
  refine ⟨by rw [e]; exact h1, ⟨by rw [k1]; exact h2, fun i hi => by rw [k4]; exact h3 i hi⟩, ⟨by rw [k2]; exact h4, fun q => by rw [k4]; exact h5 q⟩, by rw [k3]; exact h6, fun j hj => by rw [k4]; exact h7 j hj⟩
theorem Rel.act2 {σ : FD} {μ n : MD} {τ : SD} (h : Rel σ μ) (hok : fdOk σ) (hs : Rs τ n.2.1) (k : Mk (kwS μ, μ.2.1, kwB μ, μ.2.2.2) n) : Rel (actF σ τ) n := by
  have r := h.act (m := (kwS μ, n.2.1, kwB μ, μ.2.2.2)) hok hs rfl rfl
  exact r.mk k rfl
theorem Rt.chr {t : TD} {μ : MD} (h : Rt t μ) (ht : textOk t) {b i : Int} (e : b = i) (hi : 0 ≤ i ∧ i < t.1.toInt) : (μ.2.2.2.2 b.toNat).toInt = chZ t i := by
  subst e
  have hl := ht.1
  rw [h.2 b.toNat (by omega)]
  unfold chZ
  rw [if_pos (by omega)]
theorem chZ_out {t : TD} {i : Int} (h : t.1.toInt ≤ i) : chZ t i = 0 := if_neg (by omega)
theorem Rs.of21 {τ : SD} {s s' : Nat → Int32} (h : Rs τ s) (e : s' = s) : Rs τ s' := e ▸ h
/-- behind a sign that is asked for at the place a -/
def sgQ (lo hi a c : Int) (μ n : MD) : Prop := Mk μ n ∧ n.2.1 = μ.2.1 ∧ n.1 9 = μ.1 9 ∧ (((n.1 8).toInt = 0 ∧ (lo ≤ c ∧ c ≤ hi) ∧ (n.1 7).toInt = a + 1) ∨ ((n.1 8).toInt = 1 ∧ ¬ (lo ≤ c ∧ c ≤ hi) ∧ (n.1 7).toInt = a))
theorem sg_end {lo hi a c iw : Int} {μ : MD} {x z : Int32} (hx : x.toInt = iw) (hw : (iw = 1 ∧ ¬ (lo ≤ c ∧ c ≤ hi)) ∨ (iw = 0 ∧ lo ≤ c ∧ c ≤ hi)) (hz : (iw = 0 ∧ z.toInt = a + 1) ∨ (iw ≠ 0 ∧ z.toInt = a)) : sgQ lo hi a c μ (upd (upd μ.1 8 x) 7 z, μ.2) := by
  refine ⟨⟨rfl, rfl, rfl, rfl⟩, rfl, rfl, ?_⟩
  show (x.toInt = 0 ∧ (lo ≤ c ∧ c ≤ hi) ∧ z.toInt = a + 1) ∨ (x.toInt = 1 ∧ ¬ (lo ≤ c ∧ c ≤ hi) ∧ z.toInt = a)
  omega
/-- an order that is right; the place behind it; the hours that it lets pass -/
abbrev okO (t : TD) (a : Int) : Prop := (chZ t a = 112 ∧ 49 ≤ chZ t (a + 1) ∧ chZ t (a + 1) ≤ 57) ∨ (slP (chZ t a) ∧ 48 ≤ chZ t (a + 1) ∧ chZ t (a + 1) ≤ 50)
def nxZ (t : TD) (a : Int) : Int := if chZ t a = 112 ∧ (a + 2 < t.1.toInt ∧ dgP (chZ t (a + 2))) then a + 3 else a + 2
def orZ (t : TD) (a : Int) : Int := if chZ t a = 112 then (if 49 ≤ chZ t (a + 1) ∧ chZ t (a + 1) ≤ 57 then nmZ t (a + 1) else chZ t (a + 1) - 48) else 0
theorem nxZ_c (t : TD) (a : Int) : (nxZ t a = a + 3 ∧ chZ t a = 112 ∧ a + 2 < t.1.toInt ∧ dgP (chZ t (a + 2))) ∨ (nxZ t a = a + 2 ∧ ¬ (chZ t a = 112 ∧ a + 2 < t.1.toInt ∧ dgP (chZ t (a + 2)))) := by
  unfold nxZ
  split
  · rename_i h
    exact Or.inl ⟨rfl, h⟩
  · rename_i h
    exact Or.inr ⟨rfl, h⟩
theorem okO_l {t : TD} {a : Int} (h : okO t a) : (0 ≤ a ∧ a + 1 < t.1.toInt ∧ a + 1 < 60) ∧ stP t a := by
  have h0 : chZ t a ≠ 0 := by omega
  have h1 : chZ t (a + 1) ≠ 0 := by omega
  have i0 := chZ_in h0
  have i1 := chZ_in h1
  refine ⟨by omega, ?_⟩
  rcases h with h | h
  · exact Or.inl h.1
  · exact Or.inr h.1
theorem nm_c (t : TD) (a : Int) : ¬ okO t a ∨ (a + 1 < t.1.toInt ∧ ((nmZ t (a + 1) = 10 * (chZ t (a + 1) - 48) + chZ t (a + 2) - 48 ∧ a + 2 < t.1.toInt ∧ dgP (chZ t (a + 2))) ∨ (nmZ t (a + 1) = chZ t (a + 1) - 48 ∧ ¬ (a + 2 < t.1.toInt ∧ dgP (chZ t (a + 2)))))) := by
  by_cases h : okO t a
  · right
    have hl := (okO_l h).1
    refine ⟨hl.2.1, ?_⟩
    have h1 : a + 1 < t.1.toInt ∧ dgP (chZ t (a + 1)) := by omega
    have e : a + 1 + 1 = a + 2 := by omega
    by_cases c : a + 2 < t.1.toInt ∧ dgP (chZ t (a + 2))
    · left
      have := nmZ_2 h1 (by rw [e]; exact c)
      rw [e] at this
      exact ⟨this, c⟩
    · right
      exact ⟨nmZ_1 h1 (by rw [e]; exact c), c⟩
  · exact Or.inl h
theorem fitT.ok {t : TD} (h : fitT t) {a : Int} (hs : stP t a) : okO t a := by
  rcases hs with c | c
  · exact Or.inl ⟨c, (h.p c).2.2.1⟩
  · exact Or.inr ⟨c, (h.s c).2.2.1⟩
/-- behind an order at the place a -/
def ordQ (D : Prop) (τ : SD) (t : TD) (a : Int) (μ n : MD) : Prop := Mk μ n ∧ n.1 9 = μ.1 9 ∧ ((okO t a ∧ (n.1 8).toInt = 0 ∧ (n.1 7).toInt = nxZ t a ∧ (D → Rs (obS τ (chZ t a) (nmZ t (a + 1))) n.2.1)) ∨ (¬ okO t a ∧ (n.1 8).toInt = 1 ∧ (n.1 7).toInt = if stP t a then a + 1 else a)) ∧ (¬ D → n.2.1 = μ.2.1)
theorem ord_w1 {D : Prop} {τ : SD} {t : TD} {a : Int} {μ : MD} {x z : Int32} (hs : ¬ stP t a) (hx : x.toInt = 1) (hz : z.toInt = a) : ordQ D τ t a μ (upd (upd μ.1 8 x) 7 z, μ.2) := by
  refine ⟨⟨rfl, rfl, rfl, rfl⟩, rfl, Or.inr ⟨fun q => hs (okO_l q).2, hx, ?_⟩, fun _ => rfl⟩
  rw [if_neg hs]
  exact hz
theorem ord_nd {D : Prop} {τ : SD} {t : TD} {a : Int} {μ n : MD} (hs : stP t a) (hk : Mk μ n) (h9 : n.1 9 = μ.1 9) (h21 : n.2.1 = μ.2.1) (hD : ¬ D) (h : (okO t a ∧ (n.1 8).toInt = 0 ∧ (n.1 7).toInt = nxZ t a) ∨ (¬ okO t a ∧ (n.1 8).toInt = 1 ∧ (n.1 7).toInt = a + 1)) : ordQ D τ t a μ n := by
  refine ⟨hk, h9, ?_, fun _ => h21⟩
  rcases h with h | h
  · exact Or.inl ⟨h.1, h.2.1, h.2.2, fun q => absurd q hD⟩
  · refine Or.inr ⟨h.1, h.2.1, ?_⟩
    rw [if_pos hs]
    exact h.2.2
theorem ord_d {D : Prop} {τ : SD} {t : TD} {a k v : Int} {μ n n' : MD} (hk : Mk μ n) (h9 : n.1 9 = μ.1 9) (hD : D) (ho : okO t a) (h8 : (n.1 8).toInt = 0) (h7 : (n.1 7).toInt = nxZ t a) (hR : Rs (obS τ k v) n'.2.1) (hm : Mf n n') (ek : k = chZ t a) (ev : v = nmZ t (a + 1)) : ordQ D τ t a μ n' := by
  subst ek
  subst ev
  have e7 : n'.1 = n.1 := hm.1
  refine ⟨hk.tr hm.mk, by rw [e7]; exact h9, Or.inl ⟨ho, by rw [e7]; exact h8, by rw [e7]; exact h7, fun _ => hR⟩, fun q => absurd hD q⟩
theorem obS_p {τ : SD} {k v : Int} (h : k = 112) : obS τ k v = passN τ v.toNat := by
  unfold obS
  rw [if_pos h]
theorem obS_x {τ : SD} {k v : Int} (h : k = 120) : obS τ k v = (τ.1, τ.2.1, va_up τ.2.2 v.toNat (upd (τ.2.2 v.toNat).1 8 0, (τ.2.2 v.toNat).2)) := by
  subst h
  rfl
theorem obS_o {τ : SD} {k v : Int} (h : k = 111) : obS τ k v = (τ.1, τ.2.1, va_up τ.2.2 v.toNat (upd (τ.2.2 v.toNat).1 8 1, (τ.2.2 v.toNat).2)) := by
  subst h
  rfl
theorem obS_c {τ : SD} {k v : Int} (h : k = 99) : obS τ k v = (τ.1, τ.2.1, va_up τ.2.2 v.toNat (upd (τ.2.2 v.toNat).1 4 0, (τ.2.2 v.toNat).2)) := by
  subst h
  rfl
theorem obS_l {τ : SD} {k v : Int} (h : k = 108) : obS τ k v = (τ.1, τ.2.1, va_up τ.2.2 v.toNat (ntG (τ.2.2 v.toNat) τ.1)) := by
  subst h
  rfl
/-! the place in the text, and what is due there -/
def PL (t : TD) (a : Int) : Prop := (0 ≤ a ∧ a ≤ t.1.toInt) ∧ dueN t a.toNat = 0 ∧ ∀ j : Int, 0 ≤ j → j ≤ a → dueN t j.toNat ≠ 5
theorem cnt_none {q : Nat → Prop} [DecidablePred q] {n : Nat} (h : ∀ j, j < n → ¬ q j) : cntZ q n = 0 :=
  cntZ_tail (q := q) (a := 0) (b := n) (by omega) (fun j _ hj => h j hj)
theorem nth_none {q : Nat → Prop} [DecidablePred q] {k : Int} {n : Nat} (h : ∀ j, j < n → ¬ q j) : nthZ q k n = -1 := by
  by_cases c : nthZ q k n = -1
  · exact c
  · have g := nthZ_spec (q := q) (k := k) (n := n) rfl c
    exact absurd g.2.2.1 (h _ (by omega))
theorem due_none {t : TD} {a : Int} (hq : ∀ j : Int, 0 ≤ j → j ≤ a → dueN t j.toNat ≠ 5) : ∀ j : Nat, j < a.toNat → ¬ dueN t (((j : Nat) : Int) + 1).toNat = 5 := fun j hj => hq ((j : Int) + 1) (by omega) (by omega)
theorem ft_at {t : TD} {a : Int} (h0 : 0 ≤ a) (h1 : a < t.1.toInt) (hq : ∀ j : Int, 0 ≤ j → j ≤ a → dueN t j.toNat ≠ 5) (h5 : dueN t (a + 1).toNat = 5) : ftZ t = a :=
  ftZ_hit h0 h1 (nth_none (due_none hq)) (cnt_none (due_none hq)) h5
theorem ft_end {t : TD} {a : Int} (h : a = t.1.toInt) (hq : ∀ j : Int, 0 ≤ j → j ≤ a → dueN t j.toNat ≠ 5) : ftZ t = if dueN t a.toNat = 4 ∨ dueN t a.toNat = 2 then -1 else t.1.toInt :=
  ftZ_end h (nth_none (due_none hq))
theorem db_let {t : TD} {a : Int} (h0 : 0 ≤ a) (hd : dueN t a.toNat = 0) : dueN t (a + 1).toNat = if chZ t a = 112 then 1 else if slP (chZ t a) then 3 else 5 := by
  rw [dueN_s t h0, hd]
  rfl
theorem db_one {t : TD} {a : Int} (h0 : 0 ≤ a) (hd : dueN t a.toNat = 1) : dueN t (a + 1).toNat = if 49 ≤ chZ t a ∧ chZ t a ≤ 57 then 2 else 5 := by
  rw [dueN_s t h0, hd]
  rfl
theorem db_two {t : TD} {a : Int} (h0 : 0 ≤ a) (hd : dueN t a.toNat = 2) : dueN t (a + 1).toNat = if dgP (chZ t a) then 4 else if chZ t a = 59 then 0 else 5 := by
  rw [dueN_s t h0, hd]
  rfl
theorem db_thr {t : TD} {a : Int} (h0 : 0 ≤ a) (hd : dueN t a.toNat = 3) : dueN t (a + 1).toNat = if 48 ≤ chZ t a ∧ chZ t a ≤ 50 then 4 else 5 := by
  rw [dueN_s t h0, hd]
  rfl
theorem db_fou {t : TD} {a : Int} (h0 : 0 ≤ a) (hd : dueN t a.toNat = 4) : dueN t (a + 1).toNat = if chZ t a = 59 then 0 else 5 := by
  rw [dueN_s t h0, hd]
  rfl
theorem due_up {t : TD} {a : Int} (hq : ∀ j : Int, 0 ≤ j → j ≤ a → dueN t j.toNat ≠ 5) (h : dueN t (a + 1).toNat ≠ 5) : ∀ j : Int, 0 ≤ j → j ≤ a + 1 → dueN t j.toNat ≠ 5 := by
  intro j g0 g1
  rcases Int.lt_or_eq_of_le g1 with q | q
  · exact hq j g0 (by omega)
  · rw [q]
    exact h
/-- an order that is wrong: the text's fault -/
theorem ord_ft {t : TD} {a : Int} (h : PL t a) (hn : ¬ okO t a) : ftZ t = if stP t a then a + 1 else a := by
  obtain ⟨⟨h0, h1⟩, hd, hq⟩ := h
  have d1 := db_let h0 hd
  by_cases hs : stP t a
  · rw [if_pos hs]
    have hi := chZ_in (t := t) (i := a) (by omega)
    by_cases c : chZ t a = 112
    · rw [if_pos c] at d1
      have hq2 := due_up hq (by omega)
      by_cases hl : a + 1 < t.1.toInt
      · refine ft_at (by omega) hl hq2 ?_
        rw [db_one (by omega) d1, if_neg (fun q => hn (Or.inl ⟨c, q⟩))]
      · have e : a + 1 = t.1.toInt := by omega
        rw [ft_end e hq2, if_neg (by omega)]
        exact e.symm
    · rw [if_neg c, if_pos (hs.resolve_left c)] at d1
      have hq2 := due_up hq (by omega)
      by_cases hl : a + 1 < t.1.toInt
      · refine ft_at (by omega) hl hq2 ?_
        rw [db_thr (by omega) d1, if_neg (fun q => hn (Or.inr ⟨hs.resolve_left c, q⟩))]
      · have e : a + 1 = t.1.toInt := by omega
        rw [ft_end e hq2, if_neg (by omega)]
        exact e.symm
  · rw [if_neg hs]
    by_cases hl : a < t.1.toInt
    · refine ft_at h0 hl hq ?_
      rw [d1, if_neg (fun q => hs (Or.inl q)), if_neg (fun q => hs (Or.inr q))]
    · have e : a = t.1.toInt := by omega
      rw [ft_end e hq, if_neg (by omega)]
      exact e.symm
/-- the place behind an order that is right -/
theorem ord_nx {t : TD} {a : Int} (h : PL t a) (hk : okO t a) : (a + 2 ≤ nxZ t a ∧ nxZ t a ≤ t.1.toInt) ∧ (dueN t (nxZ t a).toNat = 4 ∨ (dueN t (nxZ t a).toNat = 2 ∧ ¬ (nxZ t a < t.1.toInt ∧ dgP (chZ t (nxZ t a))))) ∧ (∀ j : Int, 0 ≤ j → j ≤ nxZ t a → dueN t j.toNat ≠ 5) ∧ ∀ j : Int, a < j → j < nxZ t a → ¬ stP t j := by
  obtain ⟨⟨h0, h1⟩, hd, hq⟩ := h
  have d1 := db_let h0 hd
  have hl := okO_l hk
  have e1 : a + 1 + 1 = a + 2 := by omega
  have e2 : a + 2 + 1 = a + 3 := by omega
  rcases hk with hk | hk
  · rw [if_pos hk.1] at d1
    have q1 := due_up hq (by omega)
    have d2 := db_one (by omega) d1
    rw [if_pos hk.2, e1] at d2
    have q2 := due_up q1 (by rw [e1]; omega)
    rw [e1] at q2
    rcases nxZ_c t a with c | c
    · have d3 := db_two (by omega) d2
      rw [if_pos c.2.2.2, e2] at d3
      have q3 := due_up q2 (by rw [e2]; omega)
      rw [e2] at q3
      rw [c.1]
      refine ⟨by omega, Or.inl d3, q3, fun j g1 g2 => ?_⟩
      have c3 := c.2.2.2
      rcases (show j = a + 1 ∨ j = a + 2 by omega) with e | e
      · rw [e]; unfold stP; omega
      · rw [e]; unfold stP; omega
    · rw [c.1]
      refine ⟨by omega, Or.inr ⟨d2, fun q => c.2 ⟨hk.1, q⟩⟩, q2, fun j g1 g2 => ?_⟩
      rw [show j = a + 1 by omega]
      unfold stP
      omega
  · rw [if_neg (by omega), if_pos hk.1] at d1
    have q1 := due_up hq (by omega)
    have d2 := db_thr (by omega) d1
    rw [if_pos hk.2, e1] at d2
    have q2 := due_up q1 (by rw [e1]; omega)
    rw [e1] at q2
    rcases nxZ_c t a with c | c
    · omega
    · rw [c.1]
      refine ⟨by omega, Or.inl d2, q2, fun j g1 g2 => ?_⟩
      rw [show j = a + 1 by omega]
      unfold stP
      omega
theorem no_st {t : TD} {a : Int} (h0 : 0 ≤ a) : ∀ (n : Nat), (∀ j : Int, a ≤ j → j < a + n → ¬ stP t j) → ordZ t (a + n).toNat = ordZ t a.toNat ∧ hrsZ t (a + n).toNat = hrsZ t a.toNat ∧ ∀ τ : SD, foN τ t (a + n).toNat = foN τ t a.toNat := by
  intro n
  induction n with
  | zero =>
    intro _
    rw [show a + ((0 : Nat) : Int) = a by omega]
    exact ⟨rfl, rfl, fun _ => rfl⟩
  | succ n ih =>
    intro h
    obtain ⟨i1, i2, i3⟩ := ih (fun j g0 g1 => h j g0 (by omega))
    have hn := h (a + n) (by omega) (by omega)
    rw [show a + ((n + 1 : Nat) : Int) = a + n + 1 by omega]
    refine ⟨?_, ?_, fun τ => ?_⟩
    · unfold ordZ at i1 ⊢
      rw [cntI_f (q := stP t) (by omega) hn]
      exact i1
    · have e : hrsZ t (a + n + 1).toNat = hrsZ t (a + n).toNat + haF t (a + n) := by
        rw [show (a + (n : Int) + 1).toNat = (a + (n : Int)).toNat + 1 by omega]
        show sumZ (haF t) 0 (a + (n : Int)).toNat + haF t (0 + (((a + (n : Int)).toNat : Nat) : Int)) = _
        rw [show 0 + (((a + (n : Int)).toNat : Nat) : Int) = a + n by omega]
        rfl
      rw [e, i2, show haF t (a + n) = 0 from if_neg (fun q => hn (Or.inl q))]
      omega
    · rw [foN_f (by omega) hn]
      exact i3 τ
theorem ord_sum {t : TD} {a : Int} (h : PL t a) (hk : okO t a) : ordZ t (nxZ t a).toNat = ordZ t a.toNat + 1 ∧ hrsZ t (nxZ t a).toNat = hrsZ t a.toNat + haF t a ∧ ∀ τ : SD, foN τ t (nxZ t a).toNat = obS (foN τ t a.toNat) (chZ t a) (nmZ t (a + 1)) := by
  obtain ⟨h1, h2, h3, h4⟩ := ord_nx h hk
  have hs := (okO_l hk).2
  have h0 := h.1.1
  have g := no_st (t := t) (a := a + 1) (by omega) (nxZ t a - (a + 1)).toNat (fun j g0 g1 => h4 j (by omega) (by omega))
  rw [show a + 1 + (((nxZ t a - (a + 1)).toNat : Nat) : Int) = nxZ t a by omega] at g
  obtain ⟨g1, g2, g3⟩ := g
  refine ⟨?_, ?_, fun τ => ?_⟩
  · rw [g1]
    unfold ordZ
    exact cntI_t (q := stP t) h0 hs
  · rw [g2, show (a + 1).toNat = a.toNat + 1 by omega]
    show sumZ (haF t) 0 a.toNat + haF t (0 + ((a.toNat : Nat) : Int)) = _
    rw [show 0 + ((a.toNat : Nat) : Int) = a by omega]
    rfl
  · rw [g3, foN_t h0 hs]
theorem or_ha {t : TD} {a : Int} (hk : okO t a) : orZ t a = haF t a := by
  unfold orZ haF
  by_cases c : chZ t a = 112
  · rw [if_pos c, if_pos c, if_pos (by omega)]
  · rw [if_neg c, if_neg c]
theorem orZ_b {t : TD} (ht : textOk t) (a : Int) : -100 ≤ orZ t a ∧ orZ t a ≤ 70000 := by
  have h1 := chZ_b ht (a + 1)
  have h2 := nmZ_b t (a + 1)
  unfold orZ
  split
  · split <;> omega
  · omega
/-- behind the order: the end, or a sign between two orders -/
theorem ord_fin {t : TD} {a : Int} (h : PL t a) (hk : okO t a) (he : nxZ t a = t.1.toInt) : ftZ t = -1 := by
  obtain ⟨h1, h2, h3, h4⟩ := ord_nx h hk
  rw [ft_end he h3, if_pos (by omega)]
theorem ord_sep {t : TD} {a : Int} (h : PL t a) (hk : okO t a) (hl : nxZ t a < t.1.toInt) (hc : chZ t (nxZ t a) = 59) : PL t (nxZ t a + 1) ∧ ordZ t (nxZ t a + 1).toNat = ordZ t (nxZ t a).toNat ∧ hrsZ t (nxZ t a + 1).toNat = hrsZ t (nxZ t a).toNat ∧ ∀ τ : SD, foN τ t (nxZ t a + 1).toNat = foN τ t (nxZ t a).toNat := by
  obtain ⟨h1, h2, h3, h4⟩ := ord_nx h hk
  have h0 := h.1.1
  have d : dueN t (nxZ t a + 1).toNat = 0 := by
    rcases h2 with q | q
    · rw [db_fou (by omega) q, if_pos hc]
    · rw [db_two (by omega) q.1, if_neg (fun w => q.2 ⟨hl, w⟩), if_pos hc]
  refine ⟨⟨by omega, d, due_up h3 (by omega)⟩, ?_⟩
  exact no_st (t := t) (a := nxZ t a) (by omega) 1 (fun j g0 g1 => by rw [show j = nxZ t a by omega]; unfold stP; omega)
theorem ord_nosep {t : TD} {a : Int} (h : PL t a) (hk : okO t a) (hl : nxZ t a < t.1.toInt) (hc : chZ t (nxZ t a) ≠ 59) : ftZ t = nxZ t a := by
  obtain ⟨h1, h2, h3, h4⟩ := ord_nx h hk
  have h0 := h.1.1
  refine ft_at (by omega) hl h3 ?_
  rcases h2 with q | q
  · rw [db_fou (by omega) q, if_neg hc]
  · rw [db_two (by omega) q.1, if_neg (fun w => q.2 ⟨hl, w⟩), if_neg hc]
/-! going through the text -/
def goR (D : Prop) (τ : SD) (t : TD) (μ d : MD) (k : Int) : Prop := Mk μ d ∧ PL t (d.1 7).toInt ∧ (d.1 8).toInt = 0 ∧ k = ordZ t (d.1 7).toInt.toNat ∧ (d.1 9).toInt = hrsZ t (d.1 7).toInt.toNat ∧ (D → Rs (foN τ t (d.1 7).toInt.toNat) d.2.1) ∧ (¬ D → d.2.1 = μ.2.1)
def goE (D : Prop) (τ : SD) (t : TD) (μ n : MD) : Prop := Mk μ n ∧ ((ftZ t = -1 ∧ (n.1 8).toInt = 0 ∧ (n.1 9).toInt = hrsZ t t.1.toInt.toNat ∧ (D → Rs (foN τ t t.1.toInt.toNat) n.2.1)) ∨ (ftZ t ≠ -1 ∧ (n.1 8).toInt = 1 ∧ (n.1 7).toInt = ftZ t)) ∧ (¬ D → n.2.1 = μ.2.1)
theorem go_w1 {D : Prop} {τ τ' : SD} {t : TD} {μ d m : MD} {k : Int} {z : Int32} (hg : goR D τ t μ d k) (ho : ordQ D τ' t (d.1 7).toInt d m) (hw : (m.1 8).toInt ≠ 0) : goE D τ t μ (upd m.1 9 z, m.2) ∧ (ftZ t = -1 → k + 1 = ordZ t t.1.toInt.toNat) := by
  obtain ⟨g1, g2, g3, g4, g5, g6, g7⟩ := hg
  obtain ⟨o1, o2, o3, o4⟩ := ho
  rcases o3 with o | o
  · exact absurd o.2.1 hw
  · obtain ⟨hn, h8, h7⟩ := o
    have hf := ord_ft g2 hn
    have h0 := g2.1.1
    have hne : ftZ t ≠ -1 := by
      rw [hf]
      split <;> omega
    exact ⟨⟨g1.tr (o1.tr ⟨rfl, rfl, rfl, rfl⟩), Or.inr ⟨hne, h8, h7.trans hf.symm⟩, fun q => (o4 q).trans (g7 q)⟩, fun q => absurd q hne⟩
theorem go_e {D : Prop} {τ : SD} {t : TD} {μ d m : MD} {k : Int} {z : Int32} (hg : goR D τ t μ d k) (ho : ordQ D (foN τ t (d.1 7).toInt.toNat) t (d.1 7).toInt d m) (hw : (m.1 8).toInt = 0) (he : t.1.toInt ≤ (m.1 7).toInt) (hz : z.toInt = (d.1 9).toInt + orZ t (d.1 7).toInt) : goE D τ t μ (upd m.1 9 z, m.2) ∧ (ftZ t = -1 → k + 1 = ordZ t t.1.toInt.toNat) := by
  obtain ⟨g1, g2, g3, g4, g5, g6, g7⟩ := hg
  obtain ⟨o1, o2, o3, o4⟩ := ho
  rcases o3 with o | o
  · obtain ⟨hk, h8, h7, hR⟩ := o
    have hx := (ord_nx g2 hk).1
    have e : nxZ t (d.1 7).toInt = t.1.toInt := by omega
    obtain ⟨s1, s2, s3⟩ := ord_sum g2 hk
    rw [e] at s1 s2 s3
    refine ⟨⟨g1.tr (o1.tr ⟨rfl, rfl, rfl, rfl⟩), Or.inl ⟨ord_fin g2 hk e, h8, ?_, fun q => ?_⟩, fun q => (o4 q).trans (g7 q)⟩, fun _ => by omega⟩
    · show z.toInt = _
      rw [hz, s2, or_ha hk, g5]
    · rw [s3]
      exact hR q
  · omega
theorem go_w2 {D : Prop} {τ τ' : SD} {t : TD} {μ d m n : MD} {k c : Int} {z : Int32} (hg : goR D τ t μ d k) (ho : ordQ D τ' t (d.1 7).toInt d m) (hw : (m.1 8).toInt = 0) (he : (m.1 7).toInt < t.1.toInt) (hs : sgQ 59 59 (m.1 7).toInt c (upd m.1 9 z, m.2) n) (hc : c = chZ t (m.1 7).toInt) (hw2 : (n.1 8).toInt ≠ 0) : goE D τ t μ n ∧ (ftZ t = -1 → k + 1 = ordZ t t.1.toInt.toNat) := by
  obtain ⟨g1, g2, g3, g4, g5, g6, g7⟩ := hg
  obtain ⟨o1, o2, o3, o4⟩ := ho
  obtain ⟨s1, s2, s3, s4⟩ := hs
  rcases o3 with o | o
  · obtain ⟨hk, h8, h7, hR⟩ := o
    rw [h7] at he hc
    have hx := (ord_nx g2 hk).1
    have h0 := g2.1.1
    have hf := ord_nosep g2 hk he (by omega)
    have hne : ftZ t ≠ -1 := by omega
    refine ⟨⟨g1.tr (o1.tr (Mk.tr (μ := m) (m := (upd m.1 9 z, m.2)) ⟨rfl, rfl, rfl, rfl⟩ s1)), Or.inr ⟨hne, by omega, by omega⟩, fun q => s2.trans ((o4 q).trans (g7 q))⟩, fun q => absurd q hne⟩
  · omega
theorem go_s {D : Prop} {τ : SD} {t : TD} {μ d m n : MD} {k c : Int} {z : Int32} (hg : goR D τ t μ d k) (ho : ordQ D (foN τ t (d.1 7).toInt.toNat) t (d.1 7).toInt d m) (hw : (m.1 8).toInt = 0) (he : (m.1 7).toInt < t.1.toInt) (hs : sgQ 59 59 (m.1 7).toInt c (upd m.1 9 z, m.2) n) (hc : c = chZ t (m.1 7).toInt) (hw2 : (n.1 8).toInt = 0) (hz : z.toInt = (d.1 9).toInt + orZ t (d.1 7).toInt) : goR D τ t μ n (k + 1) := by
  obtain ⟨g1, g2, g3, g4, g5, g6, g7⟩ := hg
  obtain ⟨o1, o2, o3, o4⟩ := ho
  obtain ⟨s1, s2, s3, s4⟩ := hs
  rcases o3 with o | o
  · obtain ⟨hk, h8, h7, hR⟩ := o
    rw [h7] at he hc
    obtain ⟨p1, p2, p3, p4⟩ := ord_sep g2 hk he (by omega)
    obtain ⟨q1, q2, q3⟩ := ord_sum g2 hk
    have e7 : (n.1 7).toInt = nxZ t (d.1 7).toInt + 1 := by omega
    refine ⟨g1.tr (o1.tr (Mk.tr (μ := m) (m := (upd m.1 9 z, m.2)) ⟨rfl, rfl, rfl, rfl⟩ s1)), by rw [e7]; exact p1, hw2, ?_, ?_, fun q => ?_, fun q => s2.trans ((o4 q).trans (g7 q))⟩
    · rw [e7, p2, q1, ← g4]
    · rw [e7, p3, q2, s3, ← g5, ← or_ha hk, ← hz]
      rfl
    · rw [e7, p4, q3, s2]
      exact hR q
  · omega
theorem go_pre {D : Prop} {τ : SD} {t : TD} {μ d : MD} {k : Int} (hD : D → Rs τ μ.2.1 ∧ stOk τ ∧ fitT t ∧ τ.1.toInt + hrsZ t t.1.toInt.toNat ≤ 120) (hg : goR D τ t μ d k) : D → Rs (foN τ t (d.1 7).toInt.toNat) d.2.1 ∧ stOk (foN τ t (d.1 7).toInt.toNat) ∧ fitT t ∧ (chZ t (d.1 7).toInt = 112 → (foN τ t (d.1 7).toInt.toNat).1.toInt + nmZ t ((d.1 7).toInt + 1) ≤ 120) := by
  intro q
  obtain ⟨h1, h2, h3, h4⟩ := hD q
  obtain ⟨g1, g2, g3, g4, g5, g6, g7⟩ := hg
  have hl := g2.1
  have o := foN_ok h2 h3 h4 (d.1 7).toInt.toNat (by omega)
  refine ⟨g6 q, o.1, h3, fun c => ?_⟩
  have hi := chZ_in (t := t) (i := (d.1 7).toInt) (by omega)
  have f := fol_pre h2 h3 h4 hl.1 hi.2.1 (Or.inl c)
  omega
theorem go_0 {D : Prop} {τ : SD} {t : TD} {μ : MD} {x y z : Int32} (ht : textOk t) (hx : x.toInt = 0) (hy : y.toInt = 0) (hz : z.toInt = 0) (hD : D → Rs τ μ.2.1 ∧ stOk τ ∧ fitT t ∧ τ.1.toInt + hrsZ t t.1.toInt.toNat ≤ 120) : goR D τ t μ (upd (upd (upd μ.1 7 x) 8 y) 9 z, μ.2) 0 := by
  have e : ((upd (upd (upd μ.1 7 x) 8 y) 9 z, μ.2) : MD).1 7 = x := rfl
  have hl := ht.1
  refine ⟨⟨rfl, rfl, rfl, rfl⟩, ?_, hy, ?_, ?_, fun q => ?_, fun _ => rfl⟩
  · rw [e, hx]
    exact ⟨by omega, rfl, fun j g0 g1 => by rw [show j = 0 by omega]; show (0 : Int) ≠ 5; omega⟩
  · rw [e, hx]
    rfl
  · rw [e, hx]
    exact hz
  · rw [e, hx]
    exact (hD q).1
theorem ord_ge {D : Prop} {τ : SD} {t : TD} {a : Int} {μ n : MD} (h : ordQ D τ t a μ n) : a ≤ (n.1 7).toInt := by
  obtain ⟨o1, o2, o3, o4⟩ := h
  have hx := nxZ_c t a
  rcases o3 with o | o
  · omega
  · have h7 := o.2.2
    split at h7 <;> omega
theorem Rt.kw {t : TD} {μ : MD} (h : Rt t μ) : Rt t (kwS μ, μ.2.1, kwB μ, μ.2.2.2) := by
  refine ⟨?_, h.2⟩
  show (kwS μ 6).toInt = _
  unfold kwS
  split
  · rw [upd_ne (by omega)]
    exact h.1
  · rw [upd_ne (by omega)]
    exact h.1
