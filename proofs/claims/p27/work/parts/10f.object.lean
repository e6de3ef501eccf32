/-! the object: its history; what its steps are -/
def fdOk (σ : FD) : Prop := stOk σ.1 ∧ stOk σ.2.1 ∧ (σ.2.2.1.toInt = 0 ∨ σ.2.2.1.toInt = 1) ∧ (∀ i, i < 4 → stOk (σ.2.2.2.2.1 i)) ∧ (0 ≤ σ.2.2.2.2.2.1.toInt ∧ σ.2.2.2.2.2.1.toInt ≤ 4) ∧ textOk σ.2.2.2.2.2.2
def rtP {α : Type} (f : Nat → α) : Nat → α := fun j => if j < 3 then f (j + 1) else if j = 3 then f 0 else f j
def rtN {α : Type} (f : Nat → α) (i : Int) : Nat → α := fun j => if (j : Int) + 1 < i then f (j + 1) else f j
theorem rtN_1 {α : Type} {f : Nat → α} : rtN f 1 = f := by
  funext j
  unfold rtN
  rw [if_neg (by omega)]
theorem rtN_s {α : Type} {f : Nat → α} {i : Int} (h : 1 ≤ i) : va_up (rtN f i) (i - 1).toNat (rtN f i i.toNat) = rtN f (i + 1) := by
  refine va_upF _ (fun j hj => ?_) ?_
  · unfold rtN
    by_cases e : (j : Int) + 1 < i
    · rw [if_pos e, if_pos (by omega)]
    · rw [if_neg e, if_neg (by omega)]
  · unfold rtN
    rw [if_neg (by omega), if_pos (by omega)]
    congr 1
    omega
theorem rtN_e {α : Type} {f : Nat → α} {i : Int} (h : i = 4) : va_up (rtN f i) 3 (f 0) = rtP f := by
  subst h
  refine va_upF _ (fun j hj => ?_) ?_
  · unfold rtN rtP
    by_cases e : j < 3
    · rw [if_pos (by omega), if_pos e]
    · rw [if_neg (by omega), if_neg e, if_neg hj]
  · unfold rtP
    rw [if_neg (by omega), if_pos rfl]
/-- the object while its history is turned: the row of past states holds p, there are c of them -/
abbrev RD : Type := FD × (Nat → Nat) × Int32
def RW (G : xG) (H : Heap) (z : Nat) (r : RD) : Prop := xat G H z (.inr (4, [.ref (z + 1), .ref (z + 19), .int r.1.2.2.1, .ref (z + 37), .int r.2.2, .ref (z + 110)])) ∧ xat G H (z + 37) (.inl (G.2.2.2.2.2, 4, .inr (.inr (.inr (.inr (fun i => some (r.2.1 i))))))) ∧ ST G H (z + 1) r.1.1 ∧ ST G H (z + 19) r.1.2.1 ∧ (∀ i, i < 4 → ST G H (r.1.2.2.2.1 i) (r.1.2.2.2.2.1 i)) ∧ TX G H (z + 110) r.1.2.2.2.2.2.2 ∧ paOk z r.1.2.2.2.1
theorem SFP.raw {G : xG} {H : Heap} {z : Nat} {σ : FD} (h : SFP G H z σ) : RW G H z (σ, rtN σ.2.2.2.1 1, σ.2.2.2.2.2.1) := by
  rw [rtN_1]
  exact h
theorem RW.to {G : xG} {H : Heap} {z : Nat} {r r' : RD} (h : RW G H z r) (e : r = r') : RW G H z r' := e ▸ h
def drF (σ : FD) : FD := (σ.1, σ.2.1, σ.2.2.1, rtP σ.2.2.2.1, rtP σ.2.2.2.2.1, 3, σ.2.2.2.2.2.2)
theorem RW.done {G : xG} {H : Heap} {z : Nat} {σ : FD} (h : RW G H z (σ, rtP σ.2.2.2.1, 3)) : SFP G H z (drF σ) := by
  obtain ⟨h1, h2, h3, h4, h5, h6, h7⟩ := h
  have key : ∀ i, i < 4 → ∃ j, j < 4 ∧ rtP σ.2.2.2.1 i = σ.2.2.2.1 j ∧ rtP σ.2.2.2.2.1 i = σ.2.2.2.2.1 j ∧ (j = i + 1 ∨ (i = 3 ∧ j = 0)) := by
    intro i hi
    unfold rtP
    by_cases e : i < 3
    · exact ⟨i + 1, by omega, by rw [if_pos e], by rw [if_pos e], Or.inl rfl⟩
    · exact ⟨0, by omega, by rw [if_neg e, if_pos (by omega)], by rw [if_neg e, if_pos (by omega)], Or.inr ⟨by omega, rfl⟩⟩
  refine ⟨h1, h2, h3, h4, fun i hi => ?_, h6, fun i hi => ?_, fun i hi j hj hij => ?_⟩
  · obtain ⟨j, g1, g2, g3, -⟩ := key i hi
    show ST G H (rtP σ.2.2.2.1 i) (rtP σ.2.2.2.2.1 i)
    rw [g2, g3]
    exact h5 j g1
  · obtain ⟨j, g1, g2, g3, -⟩ := key i hi
    show z + 38 ≤ rtP σ.2.2.2.1 i ∧ rtP σ.2.2.2.1 i + 18 ≤ z + 110
    rw [g2]
    exact h7.1 j g1
  · obtain ⟨a, g1, g2, g3, g4⟩ := key i hi
    obtain ⟨b, k1, k2, k3, k4⟩ := key j hj
    show rtP σ.2.2.2.1 i + 18 ≤ rtP σ.2.2.2.1 j ∨ _
    rw [g2]
    show σ.2.2.2.1 a + 18 ≤ rtP σ.2.2.2.1 j ∨ rtP σ.2.2.2.1 j + 18 ≤ rtP σ.2.2.2.1 i
    rw [k2, g2]
    exact h7.2 a g1 b k1 (by omega)
section XA
variable {p : Program} {l : Launch} {e : Env} {R : Room} {s : State} {m : MethodId} {args : Array Value} {below : List Frame} {meth : Method} {c : Code} {H : Heap} {locs : List Loc} {cells slots : Nat} {Q : State → Prop}
variable {cc : ByteArray} {pc : Nat} {ls : Array Slot} {rest : List Value} {G : xG} {A : Nat → Prop} {a : Nat} {H0 : Heap}
/-- aastore of an object whose class is the row's own -/
theorem z_aast (hx : p.tables.exec = Jvm.exec) (hb : c.code = cc) (hK : xK G s) (t0 : Nat) {cA : ClassId} {r : vw_C} {n v ci : Nat} {vs : List Value} {f : Nat → Option Nat} (hA : xat G H a (.inl (cA, n, .inr (.inr (.inr (.inr f)))))) (ht : (xtys G)[t0]? = some (cA, .object r.1)) (hv : xat G H v (.inr (ci, vs))) (hc : vwCl[ci]? = some r) (hS : va_S A H0 H locs) (ha : A a) {x : Int32} {i : Int} (hX : x.toInt = i) (h : 0 ≤ i ∧ i < (n : Int)) (hdg : decode cc pc = .ok (.aastore, 1))
    (kk : ∀ (H1 : Heap) (locs1 : List Loc), xat G H1 a (.inl (cA, n, .inr (.inr (.inr (.inr (va_up f i.toNat (some v))))))) → H1.size = H.size → (∀ q : Nat, q ≠ a → H1[q]? = H[q]?) → va_S A H0 H1 locs1 → W p l e R s m args below meth c H1 locs1 cells slots Q (F0 m (pc + 1) ls rest)) : W p l e R s m args below meth c H locs cells slots Q (F0 m pc ls (.ref v :: .int x :: .ref a :: rest)) := by
  have hin := zi_in hX h
  have hlt : x.toNatClampNeg < n := Nat.not_le.mp fun q => hin (Or.inr q)
  have h0 : ¬ x < 0 := fun q => hin (Or.inl q)
  obtain ⟨r', hr', cellV, g1, g2, g3, -⟩ := hv
  have hcls := (hK.1.1 ci r hc).2
  obtain ⟨kA, comp, k1, k2, k3, -⟩ := (hK.1.2 t0 _ ht).2
  have hcomp : comp = G.1.1 ci := Option.some.inj (k3.symm.trans hcls.1)
  subst hcomp
  obtain ⟨kC, hkC, -⟩ := hcls.2
  have hA' : H[a]? = some (vp_cell cA (n, .inr (.inr (.inr (.inr f))))) := hA
  rw [← zi_cl hX] at kk
  refine W.aast hx hb hA' (fun q h => by cases h) (fun h => by cases h) k1 k2 rfl hkC ⟨h0, by show _ < (arrV _ _ _).slots.size; rw [arrV_size]; exact hlt⟩ g1 (fun q h => by rw [g3] at h; cases h) (by rw [g2]; exact hkC) (by rw [g2]; exact va_assign hcls) rfl rfl hdg fun H1 e9 z9 oq => ?_
  refine kk H1 _ ?_ z9 oq (hS.put z9 oq ha)
  show H1[a]? = some (vp_cell _ _)
  rw [e9]
  rw [vp_cell_q, vp_cell_q, arrV_store]
  congr 2
  funext q
  by_cases hq : q = x.toNatClampNeg
  · subst hq
    simp [updV, va_up, va_rf]
  · simp [updV, va_up, hq]
theorem z_aastR (hx : p.tables.exec = Jvm.exec) (hb : c.code = cc) (hK : xK G s) {r : RD} (hG : RW G H a r) (hS0 : va_S A H0 H locs) (ha : A (a + 37)) {v : Nat} (hv : ∃ j, j < 4 ∧ v = r.1.2.2.2.1 j) {x : Int32} {i : Int} (hX : x.toInt = i) (h : 0 ≤ i ∧ i < ((4 : Nat) : Int)) (hdg : decode cc pc = .ok (.aastore, 1))
    (kk : ∀ (H1 : Heap) (locs1 : List Loc), RW G H1 a (r.1, va_up r.2.1 i.toNat v, r.2.2) → H1.size = H.size → (∀ q : Nat, q ≠ a + 37 → H1[q]? = H[q]?) → va_S A H0 H1 locs1 → W p l e R s m args below meth c H1 locs1 cells slots Q (F0 m (pc + 1) ls rest)) : W p l e R s m args below meth c H locs cells slots Q (F0 m pc ls (.ref v :: .int x :: .ref (a + 37) :: rest)) := by
  obtain ⟨h1, h2, h3, h4, h5, h6, h7⟩ := hG
  obtain ⟨j, hj, rfl⟩ := hv
  refine z_aast (r := (RX2, TX2, 3)) hx hb hK 4 h2 rfl (h5 j hj).1 rfl hS0 ha hX h hdg (fun H1 locs1 g1 hz hq hS => kk H1 locs1 ⟨h1.kept (hq _ (by omega)), ?_, h3.kept (fun q _ _ => hq q (by omega)), h4.kept (fun q _ _ => hq q (by omega)), fun i hi => (h5 i hi).kept (fun q _ _ => by have := h7.1 i hi; exact hq q (by omega)), h6.kept (fun q _ _ => hq q (by omega)), h7⟩ hz hq hS)
  refine g1.rowq (fun k hk => ?_)
  by_cases e9 : k = i.toNat
  · subst e9
    rw [va_up_self]
    show _ = some (va_up r.2.1 i.toNat _ i.toNat)
    rw [va_up_self]
  · rw [va_up_ne _ _ e9]
    show _ = some (va_up r.2.1 i.toNat _ k)
    rw [va_up_ne _ _ e9]
theorem z_putRc (hx : p.tables.exec = Jvm.exec) (hb : c.code = cc) {own : String} {index : Nat} {Ts : List Cond} (hts : ∀ w ∈ Ts, w.before args s = true) (hin : ∀ w ∈ u_ws RX4 TX4 6, w ∈ Ts) (hown : s.vm.findClass own = some m.cls) (hK : xK G s) {r : RD} (hG : RW G H a r) (hS0 : va_S A H0 H locs) (ha : A a) (hlink : Cond.fieldLink own index "SiltedFloats" "pastCount" "I" ∈ Ts) {v : Int32}
    (hdg : decode cc pc = .ok (.putfield index, 3)) (kk : ∀ (H1 : Heap) (locs1 : List Loc), RW G H1 a (r.1, r.2.1, v) → H1.size = H.size → (∀ q : Nat, q ≠ a → H1[q]? = H[q]?) → va_S A H0 H1 locs1 → W p l e R s m args below meth c H1 locs1 cells slots Q (F0 m (pc + 3) ls rest)) : W p l e R s m args below meth c H locs cells slots Q (F0 m pc ls (.int v :: .ref a :: rest)) := by
  obtain ⟨h1, h2, h3, h4, h5, h6, h7⟩ := hG
  exact z_put (T := TX4) (k := 4) (ref := "SiltedFloats") hx hb hts hin tyX4 tyX4_ok nmX4 hown hK h1 rfl hS0 ha (by decide) hlink rfl rfl (ty := .int) rfl rfl rfl (by show 4 < 6; omega) hdg (fun H1 locs1 g1 hz hq hS => kk H1 locs1 ⟨g1, h2.kept (hq _ (by omega)), h3.kept (fun q _ _ => hq q (by omega)), h4.kept (fun q _ _ => hq q (by omega)), fun i hi => (h5 i hi).kept (fun q _ _ => by have := h7.1 i hi; exact hq q (by omega)), h6.kept (fun q _ _ => hq q (by omega)), h7⟩ hz hq hS)
end XA
def rm1 (σ : FD) : FD := if 4 ≤ σ.2.2.2.2.2.1.toInt then drF σ else σ
def rmF (σ : FD) : FD := ((rm1 σ).1, (rm1 σ).2.1, (rm1 σ).2.2.1, (rm1 σ).2.2.2.1, va_up (rm1 σ).2.2.2.2.1 (rm1 σ).2.2.2.2.2.1.toInt.toNat (rm1 σ).1, Int32.ofInt ((rm1 σ).2.2.2.2.2.1.toInt + 1), (rm1 σ).2.2.2.2.2.2)
theorem rm1_t {σ : FD} (h : 4 ≤ σ.2.2.2.2.2.1.toInt) : rm1 σ = drF σ := by
  unfold rm1
  rw [if_pos h]
theorem rm1_f {σ : FD} (h : σ.2.2.2.2.2.1.toInt < 4) : rm1 σ = σ := by
  unfold rm1
  rw [if_neg (by omega)]
theorem rmF_now (σ : FD) : (rmF σ).1 = σ.1 := by
  show (rm1 σ).1 = σ.1
  unfold rm1
  split <;> rfl
theorem rmF_kep (σ : FD) : (rmF σ).2.1 = σ.2.1 := by
  show (rm1 σ).2.1 = σ.2.1
  unfold rm1
  split <;> rfl
theorem rmF_isk (σ : FD) : (rmF σ).2.2.1 = σ.2.2.1 := by
  show (rm1 σ).2.2.1 = σ.2.2.1
  unfold rm1
  split <;> rfl
theorem rmF_tx (σ : FD) : (rmF σ).2.2.2.2.2.2 = σ.2.2.2.2.2.2 := by
  show (rm1 σ).2.2.2.2.2.2 = σ.2.2.2.2.2.2
  unfold rm1
  split <;> rfl
theorem rmF_to {G : xG} {H : Heap} {z : Nat} {σ : FD} (h : SFP G H z (rmF σ)) : SFP G H z (σ.1, σ.2.1, σ.2.2.1, (rmF σ).2.2.2.1, (rmF σ).2.2.2.2.1, (rmF σ).2.2.2.2.2.1, σ.2.2.2.2.2.2) := by
  refine h.to ?_
  refine Prod.ext (rmF_now σ) (Prod.ext (rmF_kep σ) (Prod.ext (rmF_isk σ) (Prod.ext rfl (Prod.ext rfl (Prod.ext rfl (rmF_tx σ))))))
/-- the latest state is taken back -/
def unF (σ : FD) : FD := (σ.2.2.2.2.1 (σ.2.2.2.2.2.1.toInt - 1).toNat, σ.2.1, σ.2.2.1, σ.2.2.2.1, σ.2.2.2.2.1, Int32.ofInt (σ.2.2.2.2.2.1.toInt - 1), σ.2.2.2.2.2.2)
