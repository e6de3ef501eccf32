/-! the constructors' loops -/
abbrev qarr (G : xG) (H : Heap) (a : Nat) (c : ClassId) (n : Nat) (f : Nat → Option Nat) : Prop := xat G H a (.inl (c, n, .inr (.inr (.inr (.inr f)))))
def P2a (G : xG) (t : Nat) (i : Int) (H : Heap) : Prop := ZS H (t + 2 + i.toNat) ∧ xat G H t (.inr (2, [.int 0, .ref (t + 1), .null])) ∧ ∃ f : Nat → Option Nat, qarr G H (t + 1) G.2.2.2.1 3 f ∧ (∀ j : Nat, (j : Int) < i → f j = some (t + 2 + j)) ∧ ∀ j : Nat, (j : Int) < i → WV G H (t + 2 + j) (W0 j)
theorem va_upS {α : Type} {f : Nat → Option α} {i j : Nat} {v : α} (h : j = i) : va_up f i (some v) j = some v := by
  rw [h, va_up_self]
theorem P2a_1 {G : xG} {t : Nat} {H : Heap} (hsz : ZS H (t + 2 + 1)) (hO : xat G H t (.inr (2, [.int 0, .ref (t + 1), .null]))) (hA : qarr G H (t + 1) G.2.2.2.1 3 (va_up (fun _ => none) (0 : Int).toNat (some (t + 2)))) (hV : WV G H (t + 2) (wv0 1000 12 0)) : P2a G t 1 H := by
  refine ⟨hsz, hO, _, hA, fun j hj => ?_, fun j hj => ?_⟩
  · rw [show j = 0 by omega]
    exact va_upS rfl
  · rw [show j = 0 by omega]
    exact hV
theorem P2a_s {G : xG} {t : Nat} {H : Heap} {i : Int} {f : Nat → Option Nat} (hi : 1 ≤ i ∧ i < 3) (hsz : ZS H (t + 2 + i.toNat + 1)) (hO : xat G H t (.inr (2, [.int 0, .ref (t + 1), .null]))) (hA : qarr G H (t + 1) G.2.2.2.1 3 (va_up f i.toNat (some (t + 2 + i.toNat)))) (hf : ∀ j : Nat, (j : Int) < i → f j = some (t + 2 + j)) (hw : ∀ j : Nat, (j : Int) < i → WV G H (t + 2 + j) (W0 j)) (hV : WV G H (t + 2 + i.toNat) (wv0 0 24 0)) : P2a G t (i + 1) H := by
  refine ⟨?_, hO, _, hA, fun j hj => ?_, fun j hj => ?_⟩
  · have h9 : H.size = t + 2 + i.toNat + 1 := hsz
    show H.size = _
    omega
  · by_cases e : j = i.toNat
    · subst e
      exact va_upS rfl
    · rw [va_up_ne _ _ e]
      exact hf j (by omega)
  · by_cases e : j = i.toNat
    · subst e
      have e2 : W0 i.toNat = wv0 0 24 0 := if_neg (by omega)
      rw [e2]
      exact hV
    · exact hw j (by omega)
def P2b (G : xG) (t : Nat) (i : Int) (H : Heap) : Prop := ZS H (t + 6 + 4 * i.toNat) ∧ SW G H t (0, W0) ∧ ∃ f : Nat → Option Nat, qarr G H (t + 5) G.2.2.2.2.1 3 f ∧ (∀ j : Nat, (j : Int) < i → f j = some (t + 6 + 4 * j)) ∧ ∀ j : Nat, (j : Int) < i → GA G H (t + 6 + 4 * j) (sfG W0 (gd0 (Int32.ofInt j)))
theorem SW_of {G : xG} {t : Nat} {H : Heap} {f : Nat → Option Nat} (hO : xat G H t (.inr (2, [.int 0, .ref (t + 1), .ref (t + 5)]))) (hA : qarr G H (t + 1) G.2.2.2.1 3 f) (hf : ∀ j : Nat, (j : Int) < 3 → f j = some (t + 2 + j)) (hw : ∀ j : Nat, (j : Int) < 3 → WV G H (t + 2 + j) (W0 j)) : SW G H t (0, W0) :=
  ⟨hO, hA.rowq (fun j hj => hf j (by omega)), fun j hj => hw j (by omega)⟩
theorem P2b_0 {G : xG} {t : Nat} {H : Heap} (hsz : ZS H (t + 6)) (hT : SW G H t (0, W0)) (hA : qarr G H (t + 5) G.2.2.2.2.1 3 (fun _ => none)) : P2b G t 0 H :=
  ⟨hsz, hT, _, hA, fun j hj => absurd hj (by omega), fun j hj => absurd hj (by omega)⟩
theorem P2b_s {G : xG} {t : Nat} {H : Heap} {i : Int} {x : Int32} {f : Nat → Option Nat} (hx : x.toInt = i) (hi : 0 ≤ i ∧ i < 3) (hsz : ZS H (t + 6 + 4 * i.toNat + 4)) (hT : SW G H t (0, W0)) (hA : qarr G H (t + 5) G.2.2.2.2.1 3 (va_up f i.toNat (some (t + 6 + 4 * i.toNat)))) (hf : ∀ j : Nat, (j : Int) < i → f j = some (t + 6 + 4 * j)) (hw : ∀ j : Nat, (j : Int) < i → GA G H (t + 6 + 4 * j) (sfG W0 (gd0 (Int32.ofInt j)))) (hV : GA G H (t + 6 + 4 * i.toNat) (sfG W0 (gd0 x))) : P2b G t (i + 1) H := by
  refine ⟨?_, hT, _, hA, fun j hj => ?_, fun j hj => ?_⟩
  · have h9 : H.size = t + 6 + 4 * i.toNat + 4 := hsz
    show H.size = _
    omega
  · by_cases e : j = i.toNat
    · subst e
      exact va_upS rfl
    · rw [va_up_ne _ _ e]
      exact hf j (by omega)
  · by_cases e : j = i.toNat
    · subst e
      rw [show ((i.toNat : Nat) : Int) = i by omega, ← zi_eqOf hx]
      exact hV
    · exact hw j (by omega)
theorem P2b_e {G : xG} {t : Nat} {H : Heap} {i : Int} (h : P2b G t i H) (hi : i = 3) : ZS H (t + 18) ∧ ST G H t (settle st0) := by
  subst hi
  obtain ⟨h1, h2, f, h3, h4, h5⟩ := h
  refine ⟨h1, h2.1, h2.2.1, h3.rowq (fun j hj => h4 j (by omega)), h2.2.2, fun j hj => ?_⟩
  have e : (settle st0).2.2 j = sfG W0 (gd0 (Int32.ofInt j)) := if_pos (by omega)
  rw [e]
  exact h5 j (by omega)
/-- the object at the beginning -/
def fd0 (z : Nat) : FD := (settle st0, settle st0, 0, fun i => z + 38 + 18 * i, fun _ => settle st0, 0, (0, fun _ => 0))
def P4 (G : xG) (z : Nat) (i : Int) (H : Heap) : Prop := ZS H (z + 38 + 18 * i.toNat) ∧ xat G H z (.inr (4, [.ref (z + 1), .ref (z + 19), .int 0, .ref (z + 37), .int 0, .null])) ∧ ST G H (z + 1) (settle st0) ∧ ST G H (z + 19) (settle st0) ∧ ∃ f : Nat → Option Nat, qarr G H (z + 37) G.2.2.2.2.2 4 f ∧ (∀ j : Nat, (j : Int) < i → f j = some (z + 38 + 18 * j)) ∧ ∀ j : Nat, (j : Int) < i → ST G H (z + 38 + 18 * j) (settle st0)
theorem P4_0 {G : xG} {z : Nat} {H : Heap} (hsz : ZS H (z + 38)) (hO : xat G H z (.inr (4, [.ref (z + 1), .ref (z + 19), .int 0, .ref (z + 37), .int 0, .null]))) (h1 : ST G H (z + 1) (settle st0)) (h2 : ST G H (z + 19) (settle st0)) (hA : qarr G H (z + 37) G.2.2.2.2.2 4 (fun _ => none)) : P4 G z 0 H :=
  ⟨hsz, hO, h1, h2, _, hA, fun j hj => absurd hj (by omega), fun j hj => absurd hj (by omega)⟩
theorem P4_s {G : xG} {z : Nat} {H : Heap} {i : Int} {f : Nat → Option Nat} (hi : 0 ≤ i ∧ i < 4) (hsz : ZS H (z + 38 + 18 * i.toNat + 18)) (hO : xat G H z (.inr (4, [.ref (z + 1), .ref (z + 19), .int 0, .ref (z + 37), .int 0, .null]))) (h1 : ST G H (z + 1) (settle st0)) (h2 : ST G H (z + 19) (settle st0)) (hA : qarr G H (z + 37) G.2.2.2.2.2 4 (va_up f i.toNat (some (z + 38 + 18 * i.toNat)))) (hf : ∀ j : Nat, (j : Int) < i → f j = some (z + 38 + 18 * j)) (hw : ∀ j : Nat, (j : Int) < i → ST G H (z + 38 + 18 * j) (settle st0)) (hV : ST G H (z + 38 + 18 * i.toNat) (settle st0)) : P4 G z (i + 1) H := by
  refine ⟨?_, hO, h1, h2, _, hA, fun j hj => ?_, fun j hj => ?_⟩
  · have h9 : H.size = z + 38 + 18 * i.toNat + 18 := hsz
    show H.size = _
    omega
  · by_cases e : j = i.toNat
    · subst e
      exact va_upS rfl
    · rw [va_up_ne _ _ e]
      exact hf j (by omega)
  · by_cases e : j = i.toNat
    · subst e
      exact hV
    · exact hw j (by omega)
theorem P4_e {G : xG} {z : Nat} {H : Heap} {f : Nat → Option Nat} (hO : xat G H z (.inr (4, [.ref (z + 1), .ref (z + 19), .int 0, .ref (z + 37), .int 0, .ref (z + 110)]))) (h1 : ST G H (z + 1) (settle st0)) (h2 : ST G H (z + 19) (settle st0)) (hA : qarr G H (z + 37) G.2.2.2.2.2 4 f) (hf : ∀ j : Nat, (j : Int) < 4 → f j = some (z + 38 + 18 * j)) (hw : ∀ j : Nat, (j : Int) < 4 → ST G H (z + 38 + 18 * j) (settle st0)) (hX : TX G H (z + 110) (0, fun _ => 0)) : SFP G H z (fd0 z) := by
  refine ⟨hO, hA.rowq (fun j hj => hf j (by omega)), h1, h2, fun j hj => hw j (by omega), hX, fun j hj => ?_, fun i hi j hj hij => ?_⟩
  · show z + 38 ≤ z + 38 + 18 * j ∧ z + 38 + 18 * j + 18 ≤ z + 110
    omega
  · show z + 38 + 18 * i + 18 ≤ z + 38 + 18 * j ∨ z + 38 + 18 * j + 18 ≤ z + 38 + 18 * i
    omega
theorem fd0_ok (z : Nat) : fdOk (fd0 z) :=
  ⟨settle_ok st0_ok, settle_ok st0_ok, Or.inl rfl, fun _ _ => settle_ok st0_ok, ⟨Int.le_refl _, by show (0 : Int) ≤ 4; omega⟩, ⟨⟨Int.le_refl _, by show (0 : Int) ≤ 60; omega⟩, fun j => ⟨Int.le_refl _, by show (0 : Int) ≤ 65535; omega⟩⟩⟩
