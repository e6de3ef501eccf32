/-! the constructors' loops -/
abbrev qarr (G : xG) (H : Heap) (a : Nat) (c : ClassId) (n : Nat) (f : Nat → Option Nat) : Prop := xat G H a (.inl (c, n, .inr (.inr (.inr (.inr f)))))
def P2a (G : xG) (t : Nat) (i : Int) (H : Heap) : Prop := ZS H (t + 2 + i.toNat) ∧ xat G H t (.inr (2, [.int 0, .ref (t + 1), .null])) ∧ ∃ f : Nat → Option Nat, qarr G H (t + 1) G.2.2.2.1 3 f ∧ (∀ j : Nat, (j : Int) < i → f j = some (t + 2 + j)) ∧ ∀ j : Nat, (j : Int) < i → WV G H (t + 2 + j) (W0 j)
theorem va_upS {α : Type} {f : Nat → Option α} {i j : Nat} {v : α} (h : j = i) : va_up f i (some v) j = some v := by
  rw [h, va_up_self]
theorem P2a_1 {G : xG} {t : Nat} {H : Heap} (hsz : ZS H (t + 2 + 1)) (hO : xat G H t (.inr (2, [.int 0, .ref (t + 1), .null]))) (hA : qarr G H (t + 1) G.2.2.2.1 3 (va_up (fun _ => none) (0 : Int).toNat (some (t + 2)))) (hV : WV G H (t + 2) (wv0 1000 12 0)) : P2a G t 1 H := by
  refine ⟨hsz, hO, _, hA, fun j hj => ?_, fun j hj => ?_⟩
  · rw [show j = 0 by omega]
    exact va_upS rfl
  · rw [show j = 0 by omega]
    exact hV
theorem P2a_s {G : xG} {t : Nat} {H : Heap} {i : Int} {f : Nat → Option Nat} (hi : 1 ≤ i ∧ i < 3) (hsz : ZS H (t + 2 + i.toNat + 1)) (hO : xat G H t (.inr (2, [.int 0, .ref (t + 1), .null]))) (hA : qarr G H (t + 1) G.2.2.2.1 3 (va_up f i.toNat (some (t + 2 + i.toNat)))) (hf : ∀ j : Nat, (j : Int) < i → f j = some (t + 2 + j)) (hw : ∀ j : Nat, (j : Int) < i → WV G H (t + 2 + j) (W0 j)) (hV : WV G H (t + 2 + i.toNat) (wv0 0 24 0)) : P2a G t (i + 1) H := by
  refine ⟨?_, hO, _, hA, fun j hj => ?_, fun j hj => ?_⟩
  · have h9 : H.size = t + 2 + i.toNat + 1 := hsz
    show H.size = _
    omega
  · by_cases e : j = i.toNat
    · subst e
      exact va_upS rfl
    · rw [va_up_ne _ _ e]
      exact hf j (by omega)
  · by_cases e : j = i.toNat
    · subst e
      have e2 : W0 i.toNat = wv0 0 24 0 := if_neg (by omega)
      rw [e2]
      exact hV
    · exact hw j (by omega)
def P2b (G : xG) (t : Nat) (i : Int) (H : Heap) : Prop := ZS H (t + 6 + 4 * i.toNat) ∧ SW G H t (0, W0) ∧ ∃ f : Nat → Option Nat, qarr G H (t + 5) G.2.2.2.2.1 3 f ∧ (∀ j : Nat, (j : Int) < i → f j = some (t + 6 + 4 * j)) ∧ ∀ j : Nat, (j : Int) < i → GA G H (t + 6 + 4 * j) (sfG W0 (gd0 (Int32.ofInt j)))
theorem SW_of {G : xG} {t : Nat} {H : Heap} {f : Nat → Option Nat} (hO : xat G H t (.inr (2, [.int 0, .ref (t + 1), .ref (t + 5)]))) (hA : qarr G H (t + 1) G.2.2.2.1 3 f) (hf : ∀ j : Nat, (j : Int) < 3 → f j = some (t + 2 + j)) (hw : ∀ j : Nat, (j : Int) < 3 → WV G H (t + 2 + j) (W0 j)) : SW G H t (0, W0) :=
  ⟨hO, hA.rowq (fun j hj => hf j (by omega)), fun j hj => hw j (by omega)⟩
theorem P2b_0 {G : xG} {t : Nat} {H : Heap} (hsz : ZS H (t + 6)) (hT : SW G H t (0, W0)) (hA : qarr G H (t + 5) G.2.2.2.2.1 3 (fun _ => none)) : P2b G t 0 H :=
  ⟨hsz, hT, _, hA, fun j hj => absurd hj (by omega), fun j hj => absurd hj (by omega)⟩
theorem P2b_s {G : xG} {t : Nat} {H : Heap} {i : Int} {x : Int32} {f : Nat → Option Nat} (hx : x.toInt = i) (hi : 0 ≤ i ∧ i < 3) (hsz : ZS H (t + 6 + 4 * i.toNat + 4)) (hT : SW G H t (0, W0)) (hA : qarr G H (t + 5) G.2.2.2.2.1 3 (va_up f i.toNat (some (t + 6 + 4 * i.toNat)))) (hf : ∀ j : Nat, (j : Int) < i → f j = some (t + 6 + 4 * j)) (hw : ∀ j : Nat, (j : Int) < i → GA G H (t + 6 + 4 * j) (sfG W0 (gd0 (Int32.ofInt j)))) (hV : GA G H (t + 6 + 4 * i.toNat) (sfG W0 (gd0 x))) : P2b G t (i + 1) H := by
  refine ⟨?_, hT, _, hA, fun j hj => ?_, fun j hj => ?_⟩
  · have h9 : H.size = t + 6 + 4 * i.toNat + 4 := hsz
    show H.size = _
    omega
  · by_cases e : j = i.toNat
    · subst e
      exact va_upS rfl
    · rw [va_up_ne _ _ e]
      exact hf j (by omega)
  · by_cases e : j = i.toNat
    · subst e
      rw [show ((i.toNat : Nat) : Int) = i by omega, ← zi_eqOf hx]
      exact hV
    · exact hw j (by omega)
theorem P2b_e {G : xG} {t : Nat} {H : Heap} {i : Int} (h : P2b G t i H) (hi : i = 3) : ZS H (t + 18) ∧ ST G H t (settle st0) := by
  subst hi
  obtain ⟨h1, h2, f, h3, h4, h5⟩ := h
  refine ⟨h1, h2.1, h2.2.1, h3.rowq (fun j hj => h4 j (by omega)), h2.2.2, fun j hj => ?_⟩
  have e : (settle st0).2.2 j = sfG W0 (gd0 (Int32.ofInt j)) := if_pos (by omega)
  rw [e]
  exact h5 j (by omega)
/-- the object at the beginning -/
def fd0 (z : Nat) : FD := (settle st0, settle st0, 0, fun i => z + 38 + 18 * i, fun _ => settle st0, 0, (0, fun _ => 0))
def P4 (G : xG) (z : Nat) (i : Int) (H : Heap) : Prop := ZS H (z + 38 + 18 * i.toNat) ∧ xat G H z (.inr (4, [.ref (z + 1), .ref (z + 19), .int 0, .ref (z + 37), .int 0, .null])) ∧ ST G H (z + 1) (settle st0) ∧ ST G H (z + 19) (settle st0) ∧ ∃ f : Nat → Option Nat, qarr G H (z + 37) G.2.2.2.2.2 4 f ∧ (∀ j : Nat, (j : Int) < i → f j = some (z + 38 + 18 * j)) ∧ ∀ j : Nat, (j : Int) < i → ST G H (z + 38 + 18 * j) (settle st0)
theorem P4_0 {G : xG} {z : Nat} {H : Heap} (hsz : ZS H (z + 38)) (hO : xat G H z (.inr (4, [.ref (z + 1), .ref (z + 19), .int 0, .ref (z + 37), .int 0, .null]))) (h1 : ST G H (z + 1) (settle st0)) (h2 : ST G H (z + 19) (settle st0)) (hA : qarr G H (z + 37) G.2.2.2.2.2 4 (fun _ => none)) : P4 G z 0 H :=
  ⟨hsz, hO, h1, h2, _, hA, fun j hj => absurd hj (by omega), fun j hj => absurd hj (by omega)⟩
theorem P4_s {G : xG} {z : Nat} {H : Heap} {i : Int} {f : Nat → Option Nat} (hi : 0 ≤ i ∧ i < 4) (hsz : ZS H (z + 38 + 18 * i.toNat + 18)) (hO : xat G H z (.inr (4, [.ref (z + 1), .ref (z + 19), .int 0, .ref (z + 37), .int 0, .null]))) (h1 : ST G H (z + 1) (settle st0)) (h2 : ST G H (z + 19) (settle st0)) (hA : qarr G H (z + 37) G.2.2.2.2.2 4 (va_up f i.toNat (some (z + 38 + 18 * i.toNat)))) (hf : ∀ j : Nat, (j : Int) < i → f j = some (z + 38 + 18 * j)) (hw : ∀ j : Nat, (j : Int) < i → ST G H (z + 38 + 18 * j) (settle st0)) (hV : ST G H (z + 38 + 18 * i.toNat) (settle st0)) : P4 G z (i + 1) H := by
  refine ⟨?_, hO, h1, h2, _, hA, fun j hj => ?_, fun j hj => ?_⟩
  · have h9 : H.size = z + 38 + 18 * i.toNat + 18 := hsz
    show H.size = _
    omega
  · by_cases e : j = i.toNat
    · subst e
      exact va_upS rfl
    · rw [va_up_ne _ _ e]
      exact hf j (by omega)
  · by_cases e : j = i.toNat
    · subst e
      exact hV
    · exact hw j (by omega)
theorem P4_e {G : xG} {z : Nat} {H : Heap} {f : Nat → Option Nat} (hO : xat G H z (.inr (4, [.ref (z + 1), .ref (z + 19), .int 0, .ref (z + 37), .int 0, .ref (z + 110)]))) (h1 : ST G H (z + 1) (settle st0)) (h2 : ST G H (z + 19) (settle st0)) (hA : qarr G H (z + 37) G.2.2.2.2.2 4 f) (hf : ∀ j : Nat, (j : Int) < 4 → f j = some (z + 38 + 18 * j)) (hw : ∀ j : Nat, (j : Int) < 4 → ST G H (z + 38 + 18 * j) (settle st0)) (hX : TX G H (z + 110) (0, fun _ => 0)) : SFP G H z (fd0 z) := by
  refine ⟨hO, hA.rowq (fun j hj => hf j (by omega)), h1, h2, fun j hj => hw j (by omega), hX, fun j hj => ?_, fun i hi j hj hij => ?_⟩
  · show z + 38 ≤ z + 38 + 18 * j ∧ z + 38 + 18 * j + 18 ≤ z + 110
    omega
  · show z + 38 + 18 * i + 18 ≤ z + 38 + 18 * j ∨ z + 38 + 18 * j + 18 ≤ z + 38 + 18 * i
    omega
theorem fd0_ok (z : Nat) : fdOk (fd0 z) :=
  ⟨settle_ok st0_ok, settle_ok st0_ok, Or.inl rfl, fun _ _ => settle_ok st0_ok, ⟨Int.le_refl _, by show (0 : Int) ≤ 4; omega⟩, ⟨⟨Int.le_refl _, by show (0 : Int) ≤ 60; omega⟩, fun j => ⟨Int.le_refl _, by show (0 : Int) ≤ 65535; omega⟩⟩⟩
/-! the reference at the beginning -/
def md0 : MD := (fun _ => 0, fun _ => 0, fun _ => 0, fun _ => 0, fun _ => 0)
def w5 (k : Nat) : Int32 := if k = 1 then 1000 else if k = 2 then 12 else if k = 5 then 24 else if k = 8 then 24 else 0
def in5 (t w : Int) : Int := if w = 0 then t else if w = 1 then 100 else if w = 8 then 1 else if w = 610 then 1 else 0
def In5 (s : Nat → Int32) (i : Int) : Prop := (∀ k : Nat, k < 10 → s k = w5 k) ∧ ∀ t : Int, 0 ≤ t → t < 3 → ∀ w : Int, 0 ≤ w → w < 731 → cR s t w = if t < i then in5 t w else 0
theorem In5_0 : In5 (upd (upd (upd (upd md0.2.1 (1 : Int).toNat 1000) (2 : Int).toNat 12) (5 : Int).toNat 24) (8 : Int).toNat 24) 0 := by
  refine ⟨fun k hk => ?_, fun t h0 h1 w g0 g1 => ?_⟩
  · rcases (show k = 0 ∨ k = 1 ∨ k = 2 ∨ k = 3 ∨ k = 4 ∨ k = 5 ∨ k = 6 ∨ k = 7 ∨ k = 8 ∨ k = 9 by omega) with e | e | e | e | e | e | e | e | e | e <;> subst e <;> rfl
  · rw [if_neg (by omega)]
    unfold cR
    rw [upd_ne (by omega), upd_ne (by omega), upd_ne (by omega), upd_ne (by omega)]
    rfl
theorem In5_s {s : Nat → Int32} {i : Int} {x : Int32} (h : In5 s i) (hi : 0 ≤ i ∧ i < 3) (hx : x.toInt = i) : In5 (upd (upd (upd (upd s (10 + 731 * i + 0).toNat x) (10 + 731 * i + 1).toNat 100) (10 + 731 * i + 8).toNat 1) (10 + 731 * i + 610).toNat 1) (i + 1) := by
  have hb := (((((sameBut.rf (s := s) (t := i)).up (w := 0) (v := x) hi (by omega)).up (w := 1) (v := 100) hi (by omega)).up (w := 8) (v := 1) hi (by omega)).up (w := 610) (v := 1) hi (by omega))
  refine ⟨fun k hk => (hb.1 k hk).trans (h.1 k hk), fun t h0 h1 w g0 g1 => ?_⟩
  by_cases e : t = i
  · subst e
    rw [if_pos (by omega)]
    have h2 := h.2 t h0 h1 w g0 g1
    rw [if_neg (by omega)] at h2
    unfold in5
    by_cases a4 : w = 610
    · subst a4
      rw [cR_at]
      rfl
    · rw [cR_ne hi hi (by omega) ⟨g0, g1⟩ (Or.inr a4)]
      by_cases a3 : w = 8
      · subst a3
        rw [cR_at]
        rfl
      · rw [cR_ne hi hi (by omega) ⟨g0, g1⟩ (Or.inr a3)]
        by_cases a2 : w = 1
        · subst a2
          rw [cR_at]
          rfl
        · rw [cR_ne hi hi (by omega) ⟨g0, g1⟩ (Or.inr a2)]
          by_cases a1 : w = 0
          · subst a1
            rw [cR_at, if_pos rfl]
            exact hx
          · rw [cR_ne hi hi (by omega) ⟨g0, g1⟩ (Or.inr a1), if_neg a1, if_neg a2, if_neg a3, if_neg a4]
            exact h2
  · rw [hb.2 t h0 h1 e w g0 g1, h.2 t h0 h1 w g0 g1]
    by_cases c : t < i
    · rw [if_pos c, if_pos (by omega)]
    · rw [if_neg c, if_neg (by omega)]
theorem sum_one {f : Int → Int} (h0 : f 0 = 1) : ∀ n : Nat, (∀ i : Int, 0 < i → i < n + 1 → f i = 0) → sumZ f 0 (n + 1) = 1 := by
  intro n
  induction n with
  | zero =>
    intro _
    show 0 + f (0 + ((0 : Nat) : Int)) = 1
    rw [show (0 : Int) + ((0 : Nat) : Int) = 0 by omega, h0]
    omega
  | succ n ih =>
    intro h
    show sumZ f 0 (n + 1) + f (0 + ((n + 1 : Nat) : Int)) = 1
    rw [ih (fun i a b => h i a (by omega)), h _ (by omega) (by omega)]
    omega
theorem in5_out {t w : Int} (h : ¬ (w = 0 ∨ w = 1 ∨ w = 8 ∨ w = 610)) : in5 t w = 0 := by
  unfold in5
  rw [if_neg (by omega), if_neg (by omega), if_neg (by omega), if_neg (by omega)]
theorem gd0_k {x : Int32} {h : Int} (hh : 0 ≤ h ∧ h < 120) : kindZ (gd0 x) h = 3 := if_pos hh
theorem gd0_c {x : Int32} (h : Int) : corrZ (gd0 x) h = 0 := by
  unfold corrZ rowZ
  split <;> rfl
theorem In5_g {s : Nat → Int32} {t : Int} (h : In5 s 3) (ht : 0 ≤ t ∧ t < 3) : Rg (fun w => cR s t w) (gd0 (Int32.ofInt t)) 0 := by
  have hc : ∀ w : Int, 0 ≤ w → w < 731 → cR s t w = in5 t w := fun w a b => by
    rw [h.2 t ht.1 ht.2 w a b, if_pos ht.2]
  have e11 : ((gd0 (Int32.ofInt t)).1 11).toInt = 0 := rfl
  have e10 : ((gd0 (Int32.ofInt t)).1 10).toInt = 0 := rfl
  have e9 : ((gd0 (Int32.ofInt t)).1 9).toInt = 1 := rfl
  have c0 : cR s t (610 + 0) = 1 := (hc _ (by omega) (by omega)).trans rfl
  have c1 : ∀ i : Int, 0 < i → i ≤ 120 → cR s t (610 + i) = 0 := fun i a b => (hc _ (by omega) (by omega)).trans (in5_out (by omega))
  refine ⟨fun k a b => ?_, fun i a b => ?_, ⟨⟨fun i a b => ?_, c0, ?_, fun i a b => ?_, ?_, ?_⟩, fun i a b => absurd b (by rw [e11] at a; omega), fun i j k a b c d p q r => ?_, fun i a b => ?_, fun _ => rfl⟩⟩
  · show cR s t k = _
    rw [hc k a (by omega)]
    rcases (show k = 0 ∨ k = 1 ∨ k = 2 ∨ k = 3 ∨ k = 4 ∨ k = 5 ∨ k = 6 ∨ k = 7 ∨ k = 8 by omega) with e | e | e | e | e | e | e | e | e <;> subst e
    · show t = (Int32.ofInt t).toInt
      rw [zi_ofI (by omega)]
    all_goals rfl
  · rw [gd0_k ⟨a, b⟩]
    refine ⟨?_, ?_, fun q => absurd q (by omega), fun q => absurd q (by omega)⟩
    · show cR s t (129 + i) = _
      rw [hc _ (by omega) (by omega), in5_out (by omega)]
      rfl
    · show cR s t (369 + i) = _
      rw [hc _ (by omega) (by omega), in5_out (by omega)]
      rfl
  · show cR s t (610 + i) = 0 ∨ cR s t (610 + i) = 1
    by_cases e : i = 0
    · rw [e]
      exact Or.inr c0
    · exact Or.inl (c1 i (by omega) b)
  · show cR s t (610 + ((gd0 (Int32.ofInt t)).1 11).toInt) = 1
    rw [e11]
    exact c0
  · rw [e11] at a
    exact c1 i a b
  · show cR s t (489 + ((gd0 (Int32.ofInt t)).1 11).toInt) = _
    rw [e11, e10]
    exact (hc _ (by omega) (by omega)).trans (in5_out (by omega))
  · rw [e9]
    exact (sum_one (f := fun h => cR s t (610 + h)) c0 120 (fun i a b => c1 i a (by omega))).symm
  · have hk : cR s t (610 + k) = 1 := q
    rw [c1 k (by omega) d] at hk
    omega
  · show 0 ≤ cR s t (489 + i) ∧ cR s t (489 + i) ≤ 120
    rw [hc _ (by omega) (by omega), in5_out (by omega)]
    omega
theorem In5_Rs {s : Nat → Int32} {i : Int} (h : In5 s i) (hi : i = 3) : Rs st0 s := by
  subst hi
  refine ⟨?_, fun i a b => ?_, fun t a b => ?_⟩
  · rw [h.1 _ (by omega)]
    rfl
  · rw [h.1 _ (by omega), h.1 _ (by omega), h.1 _ (by omega)]
    rcases (show i = 0 ∨ i = 1 ∨ i = 2 by omega) with e | e | e <;> subst e <;> exact ⟨rfl, rfl, rfl⟩
  · have g := In5_g h ⟨a, b⟩
    have e : st0.2.2 t.toNat = gd0 (Int32.ofInt t) := by
      show gd0 (Int32.ofInt ((t.toNat : Nat) : Int)) = _
      rw [show ((t.toNat : Nat) : Int) = t by omega]
    rw [e]
    exact g
theorem Rel_0 {z : Nat} {μ : MD} (h : Rs (settle st0) μ.2.1) (h1 : μ.1 = md0.1) : Rel (fd0 z) μ := by
  refine ⟨h, ⟨by rw [h1]; rfl, fun i hi => absurd hi (by show ¬ (i : Int) < 0; omega)⟩, ⟨by rw [h1]; rfl, fun q => absurd rfl q⟩, by rw [h1]; rfl, fun j hj => absurd hj (by show ¬ (j : Int) < 0; omega)⟩
