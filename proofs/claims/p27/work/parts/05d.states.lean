/-! a State (18 cells from t on) and the whole object (112 cells from z on) -/
abbrev SD : Type := Int32 × (Nat → Nat → Int32) × (Nat → GD)
def ST (G : xG) (H : Heap) (t : Nat) (σ : SD) : Prop := xat G H t (.inr (2, [.int σ.1, .ref (t + 1), .ref (t + 5)])) ∧ xat G H (t + 1) (.inl (G.2.2.2.1, 3, .inr (.inr (.inr (.inr (fun i => some (t + 2 + i))))))) ∧ xat G H (t + 5) (.inl (G.2.2.2.2.1, 3, .inr (.inr (.inr (.inr (fun i => some (t + 6 + 4 * i))))))) ∧ (∀ i, i < 3 → WV G H (t + 2 + i) (σ.2.1 i)) ∧ (∀ i, i < 3 → GA G H (t + 6 + 4 * i) (σ.2.2 i))
theorem ST.wave {G : xG} {H : Heap} {t i : Nat} {σ : SD} (h : ST G H t σ) (hi : i < 3) : WV G H (t + 2 + i) (σ.2.1 i) := h.2.2.2.1 i hi
theorem ST.gauge {G : xG} {H : Heap} {t i : Nat} {σ : SD} (h : ST G H t σ) (hi : i < 3) : GA G H (t + 6 + 4 * i) (σ.2.2 i) := h.2.2.2.2 i hi
theorem ST.kept {G : xG} {H H1 : Heap} {t : Nat} {σ : SD} (h : ST G H t σ) (hq : ∀ q : Nat, t ≤ q → q < t + 18 → H1[q]? = H[q]?) : ST G H1 t σ :=
  ⟨h.1.kept (hq _ (by omega) (by omega)), h.2.1.kept (hq _ (by omega) (by omega)), h.2.2.1.kept (hq _ (by omega) (by omega)), fun i hi => (h.wave hi).kept (fun q h1 h2 => hq q (by omega) (by omega)), fun i hi => (h.gauge hi).kept (fun q h1 h2 => hq q (by omega) (by omega))⟩
theorem ST.lt {G : xG} {H : Heap} {t : Nat} {σ : SD} (h : ST G H t σ) : t + 17 < H.size := by
  have := (h.gauge (i := 2) (by omega)).lt
  omega
theorem ST.to {G : xG} {H : Heap} {t : Nat} {σ σ' : SD} (h : ST G H t σ) (e : σ = σ') : ST G H t σ' := e ▸ h
theorem GA.ext {G : xG} {H : Heap} {g : Nat} {d d' : GD} (h : GA G H g d) (h0 : ∀ k, k < 12 → d.1 k = d'.1 k) (h1 : ∀ j, j < 120 → d.2.1 j = d'.2.1 j) (h2 : ∀ j, j < 120 → d.2.2.1 j = d'.2.2.1 j) (h3 : ∀ j, j < 120 → d.2.2.2 j = d'.2.2.2 j) : GA G H g d' := by
  refine ⟨?_, h.2.1.row h1, h.2.2.1.row h2, h.2.2.2.row h3⟩
  have e : gF g d.1 = gF g d'.1 := by
    unfold gF
    rw [h0 0 (by omega), h0 1 (by omega), h0 2 (by omega), h0 3 (by omega), h0 4 (by omega), h0 5 (by omega), h0 6 (by omega), h0 7 (by omega), h0 8 (by omega), h0 9 (by omega), h0 10 (by omega), h0 11 (by omega)]
  rw [← e]
  exact h.1
theorem ST.setG {G : xG} {H H1 : Heap} {t i : Nat} {σ : SD} {d' : GD} (h : ST G H t σ) (hi : i < 3) (hg : GA G H1 (t + 6 + 4 * i) d') (hq : ∀ q : Nat, q < H.size → ¬ (t + 6 + 4 * i ≤ q ∧ q < t + 6 + 4 * i + 4) → H1[q]? = H[q]?) : ST G H1 t (σ.1, σ.2.1, va_up σ.2.2 i d') := by
  have hl := h.lt
  refine ⟨h.1.kept (hq _ (by omega) (by omega)), h.2.1.kept (hq _ (by omega) (by omega)), h.2.2.1.kept (hq _ (by omega) (by omega)), fun j hj => (h.wave hj).kept (fun q h1 h2 => hq q (by omega) (by omega)), fun j hj => ?_⟩
  by_cases e : j = i
  · subst e
    show GA G H1 _ (va_up σ.2.2 j d' j)
    rw [va_up_self]
    exact hg
  · show GA G H1 _ (va_up σ.2.2 i d' j)
    rw [va_up_ne _ _ e]
    exact (h.gauge hj).kept (fun q h1 h2 => hq q (by omega) (by omega))
theorem ST.setW {G : xG} {H H1 : Heap} {t i : Nat} {σ : SD} {v' : Nat → Int32} (h : ST G H t σ) (hi : i < 3) (hg : WV G H1 (t + 2 + i) v') (hq : ∀ q : Nat, q < H.size → ¬ (t + 2 + i ≤ q ∧ q < t + 2 + i + 1) → H1[q]? = H[q]?) : ST G H1 t (σ.1, va_up σ.2.1 i v', σ.2.2) := by
  have hl := h.lt
  refine ⟨h.1.kept (hq _ (by omega) (by omega)), h.2.1.kept (hq _ (by omega) (by omega)), h.2.2.1.kept (hq _ (by omega) (by omega)), fun j hj => ?_, fun j hj => (h.gauge hj).kept (fun q h1 h2 => hq q (by omega) (by omega))⟩
  by_cases e : j = i
  · subst e
    show WV G H1 _ (va_up σ.2.1 j v' j)
    rw [va_up_self]
    exact hg
  · show WV G H1 _ (va_up σ.2.1 i v' j)
    rw [va_up_ne _ _ e]
    exact (h.wave hj).kept (fun q h1 h2 => hq q (by omega) (by omega))
/-- now, kept, isKept, where the four past states lie, what they are, their number, the text -/
abbrev FD : Type := SD × SD × Int32 × (Nat → Nat) × (Nat → SD) × Int32 × TD
def paOk (z : Nat) (pa : Nat → Nat) : Prop := (∀ i, i < 4 → z + 38 ≤ pa i ∧ pa i + 18 ≤ z + 110) ∧ ∀ i, i < 4 → ∀ j, j < 4 → i ≠ j → pa i + 18 ≤ pa j ∨ pa j + 18 ≤ pa i
def SFP (G : xG) (H : Heap) (z : Nat) (σ : FD) : Prop := xat G H z (.inr (4, [.ref (z + 1), .ref (z + 19), .int σ.2.2.1, .ref (z + 37), .int σ.2.2.2.2.2.1, .ref (z + 110)])) ∧ xat G H (z + 37) (.inl (G.2.2.2.2.2, 4, .inr (.inr (.inr (.inr (fun i => some (σ.2.2.2.1 i))))))) ∧ ST G H (z + 1) σ.1 ∧ ST G H (z + 19) σ.2.1 ∧ (∀ i, i < 4 → ST G H (σ.2.2.2.1 i) (σ.2.2.2.2.1 i)) ∧ TX G H (z + 110) σ.2.2.2.2.2.2 ∧ paOk z σ.2.2.2.1
theorem SFP.now {G : xG} {H : Heap} {z : Nat} {σ : FD} (h : SFP G H z σ) : ST G H (z + 1) σ.1 := h.2.2.1
theorem SFP.kep {G : xG} {H : Heap} {z : Nat} {σ : FD} (h : SFP G H z σ) : ST G H (z + 19) σ.2.1 := h.2.2.2.1
theorem SFP.past {G : xG} {H : Heap} {z i : Nat} {σ : FD} (h : SFP G H z σ) (hi : i < 4) : ST G H (σ.2.2.2.1 i) (σ.2.2.2.2.1 i) := h.2.2.2.2.1 i hi
theorem SFP.text {G : xG} {H : Heap} {z : Nat} {σ : FD} (h : SFP G H z σ) : TX G H (z + 110) σ.2.2.2.2.2.2 := h.2.2.2.2.2.1
theorem SFP.pa {G : xG} {H : Heap} {z : Nat} {σ : FD} (h : SFP G H z σ) : paOk z σ.2.2.2.1 := h.2.2.2.2.2.2
theorem SFP.lt {G : xG} {H : Heap} {z : Nat} {σ : FD} (h : SFP G H z σ) : z + 111 < H.size := by
  have := h.text.lt
  omega
theorem SFP.kept {G : xG} {H H1 : Heap} {z : Nat} {σ : FD} (h : SFP G H z σ) (hq : ∀ q : Nat, z ≤ q → q < z + 112 → H1[q]? = H[q]?) : SFP G H1 z σ :=
  ⟨h.1.kept (hq _ (by omega) (by omega)), h.2.1.kept (hq _ (by omega) (by omega)), h.now.kept (fun q _ _ => hq q (by omega) (by omega)), h.kep.kept (fun q _ _ => hq q (by omega) (by omega)), fun i hi => (h.past hi).kept (fun q _ _ => by have := h.pa.1 i hi; exact hq q (by omega) (by omega)), h.text.kept (fun q _ _ => hq q (by omega) (by omega)), h.pa⟩
theorem SFP.to {G : xG} {H : Heap} {z : Nat} {σ σ' : FD} (h : SFP G H z σ) (e : σ = σ') : SFP G H z σ' := e ▸ h
theorem SFP.setNow {G : xG} {H H1 : Heap} {z : Nat} {σ : FD} {σ' : SD} (h : SFP G H z σ) (hn : ST G H1 (z + 1) σ') (hq : ∀ q : Nat, q < H.size → ¬ (z + 1 ≤ q ∧ q < z + 1 + 18) → H1[q]? = H[q]?) : SFP G H1 z (σ', σ.2) := by
  have hl := h.lt
  exact ⟨h.1.kept (hq _ (by omega) (by omega)), h.2.1.kept (hq _ (by omega) (by omega)), hn, h.kep.kept (fun q _ _ => hq q (by omega) (by omega)), fun i hi => (h.past hi).kept (fun q _ _ => by have := h.pa.1 i hi; exact hq q (by omega) (by omega)), h.text.kept (fun q _ _ => hq q (by omega) (by omega)), h.pa⟩
theorem SFP.setKep {G : xG} {H H1 : Heap} {z : Nat} {σ : FD} {σ' : SD} (h : SFP G H z σ) (hn : ST G H1 (z + 19) σ') (hq : ∀ q : Nat, q < H.size → ¬ (z + 19 ≤ q ∧ q < z + 19 + 18) → H1[q]? = H[q]?) : SFP G H1 z (σ.1, σ', σ.2.2) := by
  have hl := h.lt
  exact ⟨h.1.kept (hq _ (by omega) (by omega)), h.2.1.kept (hq _ (by omega) (by omega)), h.now.kept (fun q _ _ => hq q (by omega) (by omega)), hn, fun i hi => (h.past hi).kept (fun q _ _ => by have := h.pa.1 i hi; exact hq q (by omega) (by omega)), h.text.kept (fun q _ _ => hq q (by omega) (by omega)), h.pa⟩
theorem SFP.setText {G : xG} {H H1 : Heap} {z : Nat} {σ : FD} {t' : TD} (h : SFP G H z σ) (hn : TX G H1 (z + 110) t') (hq : ∀ q : Nat, q < H.size → ¬ (z + 110 ≤ q ∧ q < z + 110 + 2) → H1[q]? = H[q]?) : SFP G H1 z (σ.1, σ.2.1, σ.2.2.1, σ.2.2.2.1, σ.2.2.2.2.1, σ.2.2.2.2.2.1, t') := by
  have hl := h.lt
  exact ⟨h.1.kept (hq _ (by omega) (by omega)), h.2.1.kept (hq _ (by omega) (by omega)), h.now.kept (fun q _ _ => hq q (by omega) (by omega)), h.kep.kept (fun q _ _ => hq q (by omega) (by omega)), fun i hi => (h.past hi).kept (fun q _ _ => by have := h.pa.1 i hi; exact hq q (by omega) (by omega)), hn, h.pa⟩
theorem SFP.setPast {G : xG} {H H1 : Heap} {z i : Nat} {σ : FD} {σ' : SD} (h : SFP G H z σ) (hi : i < 4) (hn : ST G H1 (σ.2.2.2.1 i) σ') (hq : ∀ q : Nat, q < H.size → ¬ (σ.2.2.2.1 i ≤ q ∧ q < σ.2.2.2.1 i + 18) → H1[q]? = H[q]?) : SFP G H1 z (σ.1, σ.2.1, σ.2.2.1, σ.2.2.2.1, va_up σ.2.2.2.2.1 i σ', σ.2.2.2.2.2) := by
  have hl := h.lt
  have hb := h.pa.1 i hi
  refine ⟨h.1.kept (hq _ (by omega) (by omega)), h.2.1.kept (hq _ (by omega) (by omega)), h.now.kept (fun q _ _ => hq q (by omega) (by omega)), h.kep.kept (fun q _ _ => hq q (by omega) (by omega)), fun j hj => ?_, h.text.kept (fun q _ _ => hq q (by omega) (by omega)), h.pa⟩
  by_cases e : j = i
  · subst e
    show ST G H1 _ (va_up σ.2.2.2.2.1 j σ' j)
    rw [va_up_self]
    exact hn
  · show ST G H1 _ (va_up σ.2.2.2.2.1 i σ' j)
    rw [va_up_ne _ _ e]
    have h1 := h.pa.1 j hj
    have h2 := h.pa.2 j hj i hi e
    exact (h.past hj).kept (fun q _ _ => hq q (by omega) (by omega))
section XS
variable {p : Program} {l : Launch} {e : Env} {R : Room} {s : State} {m : MethodId} {args : Array Value} {below : List Frame} {meth : Method} {c : Code} {H : Heap} {locs : List Loc} {cells slots : Nat} {Q : State → Prop}
variable {cc : ByteArray} {pc : Nat} {ls : Array Slot} {rest : List Value} {G : xG} {A : Nat → Prop} {a : Nat} {H0 : Heap}
theorem z_putS (hx : p.tables.exec = Jvm.exec) (hb : c.code = cc) {own : String} {index : Nat} {Ts : List Cond} (hts : ∀ w ∈ Ts, w.before args s = true) (hin : ∀ w ∈ u_ws RX2 TX2 3, w ∈ Ts) (hown : s.vm.findClass own = some m.cls) (hK : xK G s) {σ : SD} (hG : ST G H a σ) (hS0 : va_S A H0 H locs) (ha : A a) (hlink : Cond.fieldLink own index "SiltedFloats$State" "hour" "I" ∈ Ts) {v : Int32}
    (hdg : decode cc pc = .ok (.putfield index, 3)) (kk : ∀ (H1 : Heap) (locs1 : List Loc), ST G H1 a (v, σ.2) → H1.size = H.size → (∀ q : Nat, q ≠ a → H1[q]? = H[q]?) → va_S A H0 H1 locs1 → W p l e R s m args below meth c H1 locs1 cells slots Q (F0 m (pc + 3) ls rest)) : W p l e R s m args below meth c H locs cells slots Q (F0 m pc ls (.int v :: .ref a :: rest)) :=
  z_put (T := TX2) (k := 0) (ref := "SiltedFloats$State") hx hb hts hin tyX2 tyX2_ok nmX2 hown hK hG.1 rfl hS0 ha (by decide) hlink rfl rfl (ty := .int) rfl rfl rfl (by show 0 < 3; omega) hdg (fun H1 locs1 h1 hz hq hS => kk H1 locs1 ⟨h1, hG.2.1.kept (hq _ (by omega)), hG.2.2.1.kept (hq _ (by omega)), fun i hi => (hG.wave hi).kept (fun q _ _ => hq q (by omega)), fun i hi => (hG.gauge hi).kept (fun q _ _ => hq q (by omega))⟩ hz hq hS)
theorem z_putFk (hx : p.tables.exec = Jvm.exec) (hb : c.code = cc) {own : String} {index : Nat} {Ts : List Cond} (hts : ∀ w ∈ Ts, w.before args s = true) (hin : ∀ w ∈ u_ws RX4 TX4 6, w ∈ Ts) (hown : s.vm.findClass own = some m.cls) (hK : xK G s) {σ : FD} (hG : SFP G H a σ) (hS0 : va_S A H0 H locs) (ha : A a) (hlink : Cond.fieldLink own index "SiltedFloats" "isKept" "Z" ∈ Ts) {v : Int32} (hn : narrow .boolean (.int v) = .int v) (hfit : fits .boolean (.int v) = true)
    (hdg : decode cc pc = .ok (.putfield index, 3)) (kk : ∀ (H1 : Heap) (locs1 : List Loc), SFP G H1 a (σ.1, σ.2.1, v, σ.2.2.2) → H1.size = H.size → (∀ q : Nat, q ≠ a → H1[q]? = H[q]?) → va_S A H0 H1 locs1 → W p l e R s m args below meth c H1 locs1 cells slots Q (F0 m (pc + 3) ls rest)) : W p l e R s m args below meth c H locs cells slots Q (F0 m pc ls (.int v :: .ref a :: rest)) :=
  z_put (T := TX4) (k := 2) (ref := "SiltedFloats") hx hb hts hin tyX4 tyX4_ok nmX4 hown hK hG.1 rfl hS0 ha (by decide) hlink rfl rfl (ty := .boolean) rfl hn hfit (by show 2 < 6; omega) hdg (fun H1 locs1 h1 hz hq hS => kk H1 locs1 ⟨h1, hG.2.1.kept (hq _ (by omega)), hG.now.kept (fun q _ _ => hq q (by omega)), hG.kep.kept (fun q _ _ => hq q (by omega)), fun i hi => (hG.past hi).kept (fun q _ _ => by have := hG.pa.1 i hi; exact hq q (by omega)), hG.text.kept (fun q _ _ => hq q (by omega)), hG.pa⟩ hz hq hS)
theorem z_putFc (hx : p.tables.exec = Jvm.exec) (hb : c.code = cc) {own : String} {index : Nat} {Ts : List Cond} (hts : ∀ w ∈ Ts, w.before args s = true) (hin : ∀ w ∈ u_ws RX4 TX4 6, w ∈ Ts) (hown : s.vm.findClass own = some m.cls) (hK : xK G s) {σ : FD} (hG : SFP G H a σ) (hS0 : va_S A H0 H locs) (ha : A a) (hlink : Cond.fieldLink own index "SiltedFloats" "pastCount" "I" ∈ Ts) {v : Int32}
    (hdg : decode cc pc = .ok (.putfield index, 3)) (kk : ∀ (H1 : Heap) (locs1 : List Loc), SFP G H1 a (σ.1, σ.2.1, σ.2.2.1, σ.2.2.2.1, σ.2.2.2.2.1, v, σ.2.2.2.2.2.2) → H1.size = H.size → (∀ q : Nat, q ≠ a → H1[q]? = H[q]?) → va_S A H0 H1 locs1 → W p l e R s m args below meth c H1 locs1 cells slots Q (F0 m (pc + 3) ls rest)) : W p l e R s m args below meth c H locs cells slots Q (F0 m pc ls (.int v :: .ref a :: rest)) :=
  z_put (T := TX4) (k := 4) (ref := "SiltedFloats") hx hb hts hin tyX4 tyX4_ok nmX4 hown hK hG.1 rfl hS0 ha (by decide) hlink rfl rfl (ty := .int) rfl rfl rfl (by show 4 < 6; omega) hdg (fun H1 locs1 h1 hz hq hS => kk H1 locs1 ⟨h1, hG.2.1.kept (hq _ (by omega)), hG.now.kept (fun q _ _ => hq q (by omega)), hG.kep.kept (fun q _ _ => hq q (by omega)), fun i hi => (hG.past hi).kept (fun q _ _ => by have := hG.pa.1 i hi; exact hq q (by omega)), hG.text.kept (fun q _ _ => hq q (by omega)), hG.pa⟩ hz hq hS)
end XS
/-! what a gauge becomes -/
theorem upd_at {f : Nat → Int32} {k : Nat} {x : Int32} : upd f k x k = x := by simp [upd]
/-- the silt, and how much the gauge has sunk, behind the hour h -/
def siltN (d : GD) (h : Int) : Int := if (0 < (d.1 5).toInt ∧ (h + 1) % (d.1 5).toInt = 0) ∧ (d.1 4).toInt < 90 then (d.1 4).toInt + 1 else (d.1 4).toInt
def sunkN (d : GD) (h : Int) : Int := if 0 < (d.1 6).toInt ∧ (h + 1) % (d.1 6).toInt = 0 then (d.1 7).toInt + 1 else (d.1 7).toInt
def flN (d : GD) (w : Int) : Int := (d.1 3).toInt + (w - (d.1 3).toInt) * (100 - (d.1 4).toInt) / 100
/-- a gauge behind the hour h, with the water w outside -/
def phG (d : GD) (h w : Int) : GD := (upd (upd (upd d.1 3 (Int32.ofInt (flN d w))) 4 (Int32.ofInt (siltN d h))) 7 (Int32.ofInt (sunkN d h)), upd d.2.1 h.toNat (if (d.1 8).toInt = 0 then 1 else 0), upd d.2.2.1 h.toNat (if (d.1 8).toInt = 0 then 0 else Int32.ofInt (flN d w + (d.1 7).toInt)), upd d.2.2.2 h.toNat (d.1 10))
theorem phG_eq {d : GD} {h w : Int} {f K V C : Nat → Int32} (h3 : (f 3).toInt = flN d w) (h4 : (f 4).toInt = siltN d h) (h7 : (f 7).toInt = sunkN d h) (ho : ∀ k, k ≠ 3 → k ≠ 4 → k ≠ 7 → f k = d.1 k) (hK : K = upd d.2.1 h.toNat (if (d.1 8).toInt = 0 then 1 else 0)) (hV : V = upd d.2.2.1 h.toNat (if (d.1 8).toInt = 0 then 0 else Int32.ofInt (flN d w + (d.1 7).toInt))) (hC : C = upd d.2.2.2 h.toNat (d.1 10)) : ((f, K, V, C) : GD) = phG d h w := by
  unfold phG
  rw [hK, hV, hC]
  refine Prod.ext ?_ rfl
  funext k
  show f k = upd (upd (upd d.1 3 _) 4 _) 7 _ k
  by_cases e7 : k = 7
  · subst e7
    rw [← h7, zi_of]
    simp [upd]
  · by_cases e4 : k = 4
    · subst e4
      rw [← h4, zi_of]
      simp [upd]
    · by_cases e3 : k = 3
      · subst e3
        rw [← h3, zi_of]
        simp [upd]
      · rw [ho k e3 e4 e7]
        simp [upd, e3, e4, e7]
/-- the corrections when a note is made at the hour hh, done up to the hour i -/
def ntC (d : GD) (hh i : Int) : Nat → Int32 := fun j => if (d.1 11).toInt ≤ (j : Int) ∧ (j : Int) < i then Int32.ofInt ((d.1 10).toInt + shZ ((d.1 7).toInt - (d.1 10).toInt) ((j : Int) - (d.1 11).toInt) (hh - (d.1 11).toInt)) else d.2.2.2 j
def ntG (d : GD) (x : Int32) : GD := if (d.1 11).toInt = x.toInt then d else (upd (upd (upd d.1 10 (d.1 7)) 11 x) 9 (Int32.ofInt ((d.1 9).toInt + 1)), d.2.1, d.2.2.1, ntC d x.toInt x.toInt)
theorem ntC_s {d : GD} {hh i : Int} {z : Int32} (h0 : 0 ≤ i) (h1 : (d.1 11).toInt ≤ i) (hz : z.toInt = (d.1 10).toInt + shZ ((d.1 7).toInt - (d.1 10).toInt) (i - (d.1 11).toInt) (hh - (d.1 11).toInt)) : upd (ntC d hh i) i.toNat z = ntC d hh (i + 1) := by
  funext j
  have hj : ((i.toNat : Nat) : Int) = i := by omega
  by_cases e : j = i.toNat
  · subst e
    unfold ntC
    rw [upd_at, if_pos (by omega), hj, ← hz, zi_of]
  · unfold ntC
    simp only [upd, if_neg e]
    by_cases e2 : (d.1 11).toInt ≤ (j : Int) ∧ (j : Int) < i
    · rw [if_pos e2, if_pos (by omega)]
    · rw [if_neg e2, if_neg (by omega)]
theorem ntC_0 {d : GD} {hh i : Int} (h : i ≤ (d.1 11).toInt ∨ i ≤ 0) : ntC d hh i = d.2.2.2 := by
  funext j
  unfold ntC
  rw [if_neg (by omega)]
/-- the rows when a gap is mended, done up to the hour i -/
def mdK (d : GD) (a i : Int) : Nat → Int32 := fun j => if a < (j : Int) ∧ (j : Int) < i then 2 else d.2.1 j
def mdE (d o : GD) (a f : Int) : Int := cordZ d a - cordZ o (a + f)
def mdZ (d o : GD) (a b f h : Int) : Int := cordZ o (h + f) + mdE d o a f + shZ (mdE d o b f - mdE d o a f) (h - a) (b - a)
def mdV (d o : GD) (a b f i : Int) : Nat → Int32 := fun j => if a < (j : Int) ∧ (j : Int) < i then Int32.ofInt (mdZ d o a b f (j : Int)) else d.2.2.1 j
def mdG (d o : GD) (a b f : Int) : GD := (d.1, mdK d a b, mdV d o a b f b, d.2.2.2)
theorem mdK_s {d : GD} {a i : Int} (h0 : 0 ≤ i) (h1 : a < i) : upd (mdK d a i) i.toNat 2 = mdK d a (i + 1) := by
  funext j
  by_cases e : j = i.toNat
  · subst e
    unfold mdK
    rw [upd_at, if_pos (by omega)]
  · unfold mdK
    simp only [upd, if_neg e]
    by_cases e2 : a < (j : Int) ∧ (j : Int) < i
    · rw [if_pos e2, if_pos (by omega)]
    · rw [if_neg e2, if_neg (by omega)]
theorem mdV_s {d o : GD} {a b f i : Int} {z : Int32} (h0 : 0 ≤ i) (h1 : a < i) (hz : z.toInt = mdZ d o a b f i) : upd (mdV d o a b f i) i.toNat z = mdV d o a b f (i + 1) := by
  funext j
  by_cases e : j = i.toNat
  · subst e
    unfold mdV
    have hj : ((i.toNat : Nat) : Int) = i := by omega
    rw [upd_at, if_pos (by omega), hj, ← hz, zi_of]
  · unfold mdV
    simp only [upd, if_neg e]
    by_cases e2 : a < (j : Int) ∧ (j : Int) < i
    · rw [if_pos e2, if_pos (by omega)]
    · rw [if_neg e2, if_neg (by omega)]
theorem mdK_0 {d : GD} {a i : Int} (h : i ≤ a + 1 ∨ i ≤ 0) : mdK d a i = d.2.1 := by
  funext j
  unfold mdK
  rw [if_neg (by omega)]
theorem mdV_0 {d o : GD} {a b f i : Int} (h : i ≤ a + 1 ∨ i ≤ 0) : mdV d o a b f i = d.2.2.1 := by
  funext j
  unfold mdV
  rw [if_neg (by omega)]
/-- the kinds when what was mended is forgotten, done up to the hour i -/
def fgK (d : GD) (i : Int) : Nat → Int32 := fun j => if (j : Int) < i ∧ (d.2.1 j).toInt = 2 then 1 else d.2.1 j
theorem fgK_s {d : GD} {i : Int} (h0 : 0 ≤ i) (h1 : (d.2.1 i.toNat).toInt = 2) : upd (fgK d i) i.toNat 1 = fgK d (i + 1) := by
  funext j
  by_cases e : j = i.toNat
  · subst e
    unfold fgK
    rw [upd_at, if_pos ⟨by omega, h1⟩]
  · unfold fgK
    simp only [upd, if_neg e]
    by_cases e2 : (j : Int) < i ∧ (d.2.1 j).toInt = 2
    · rw [if_pos e2, if_pos ⟨by omega, e2.2⟩]
    · rw [if_neg e2, if_neg (fun q => e2 ⟨by omega, q.2⟩)]
theorem fgK_n {d : GD} {i : Int} (h0 : 0 ≤ i) (h1 : (d.2.1 i.toNat).toInt ≠ 2) : fgK d i = fgK d (i + 1) := by
  funext j
  by_cases e : j = i.toNat
  · subst e
    unfold fgK
    rw [if_neg (fun q => h1 q.2), if_neg (fun q => h1 q.2)]
  · unfold fgK
    by_cases e2 : (j : Int) < i ∧ (d.2.1 j).toInt = 2
    · rw [if_pos e2, if_pos ⟨by omega, e2.2⟩]
    · rw [if_neg e2, if_neg (fun q => e2 ⟨by omega, q.2⟩)]
theorem fgK_at {d : GD} {i : Int} (h0 : 0 ≤ i) : fgK d i i.toNat = d.2.1 i.toNat := by
  unfold fgK
  rw [if_neg (by omega)]
theorem fgK_0 {d : GD} {i : Int} (h : i ≤ 0) : fgK d i = d.2.1 := by
  funext j
  unfold fgK
  rw [if_neg (by omega)]
theorem siltN_f1 {d : GD} {h : Int} (c : ¬ (0 < (d.1 5).toInt ∧ (h + 1) % (d.1 5).toInt = 0)) : siltN d h = (d.1 4).toInt := by
  unfold siltN
  rw [if_neg (fun q => c q.1)]
theorem siltN_f2 {d : GD} {h : Int} (c : 90 ≤ (d.1 4).toInt) : siltN d h = (d.1 4).toInt := by
  unfold siltN
  rw [if_neg (by omega)]
theorem siltN_t {d : GD} {h : Int} (a : 0 < (d.1 5).toInt ∧ (h + 1) % (d.1 5).toInt = 0) (c : (d.1 4).toInt < 90) : siltN d h = (d.1 4).toInt + 1 := by
  unfold siltN
  rw [if_pos ⟨a, c⟩]
theorem sunkN_f {d : GD} {h : Int} (c : ¬ (0 < (d.1 6).toInt ∧ (h + 1) % (d.1 6).toInt = 0)) : sunkN d h = (d.1 7).toInt := by
  unfold sunkN
  rw [if_neg c]
theorem sunkN_t {d : GD} {h : Int} (c : 0 < (d.1 6).toInt ∧ (h + 1) % (d.1 6).toInt = 0) : sunkN d h = (d.1 7).toInt + 1 := by
  unfold sunkN
  rw [if_pos c]
theorem shZ_b {w h a : Int} (hb : -1000000 ≤ w * h ∧ w * h ≤ 1000000) : -1000000 ≤ shZ w h a ∧ shZ w h a ≤ 1000000 := by
  unfold shZ
  split
  · omega
  · generalize w * h = p at hb
    have ha : 0 < a := by omega
    constructor
    · refine Int.le_ediv_of_mul_le ha ?_
      rcases Int.le_total 0 p with q | q
      · have := Int.mul_nonneg (show (0 : Int) ≤ 1000000 by omega) (show 0 ≤ a by omega)
        rw [Int.neg_mul]
        omega
      · have := Int.mul_le_mul_of_nonneg_left (show (1 : Int) ≤ a by omega) (show (0 : Int) ≤ 1000000 by omega)
        rw [Int.neg_mul]
        omega
    · rcases Int.le_total 0 p with q | q
      · have := Int.ediv_le_self a q
        omega
      · have := Int.ediv_nonpos_of_nonpos_of_neg q ha
        omega
theorem ntG_same {d : GD} {x : Int32} (h : (d.1 11).toInt = x.toInt) : d = ntG d x := by
  unfold ntG
  rw [if_pos h]
theorem ntG_eq {d : GD} {x z : Int32} {h i : Int} (e : x.toInt = h) (hn : (d.1 11).toInt ≠ h) (hi : i = h) (hz : z = Int32.ofInt ((d.1 9).toInt + 1)) : ((upd (upd (upd d.1 10 (d.1 7)) 11 x) 9 z, d.2.1, d.2.2.1, ntC d h i) : GD) = ntG d x := by
  subst e
  subst hi
  subst hz
  unfold ntG
  rw [if_neg hn]
theorem va_cpy0 {f g : Nat → Int32} {j : Nat} (h : j < 120) : va_cpy f g 0 0 120 j = f j := by
  unfold va_cpy
  rw [if_pos (by omega)]
  congr 1
  omega
theorem mdE_b {d o : GD} (h : smallG d) (g : smallG o) (a f : Int) : -2002000 ≤ mdE d o a f ∧ mdE d o a f ≤ 2002000 := by
  have := h.cord a
  have := g.cord (a + f)
  unfold mdE
  omega
theorem shZ_b2 {w h a : Int} (hb : -(8008000 * 200) ≤ w * h ∧ w * h ≤ 8008000 * 200) : -1601600000 ≤ shZ w h a ∧ shZ w h a ≤ 1601600000 := by
  unfold shZ
  split
  · omega
  · generalize w * h = p at hb
    have ha : 0 < a := by omega
    constructor
    · refine Int.le_ediv_of_mul_le ha ?_
      rcases Int.le_total 0 p with q | q
      · have := Int.mul_nonneg (show (0 : Int) ≤ 1601600000 by omega) (show 0 ≤ a by omega)
        rw [Int.neg_mul]
        omega
      · have := Int.mul_le_mul_of_nonneg_left (show (1 : Int) ≤ a by omega) (show (0 : Int) ≤ 1601600000 by omega)
        rw [Int.neg_mul]
        omega
    · rcases Int.le_total 0 p with q | q
      · have := Int.ediv_le_self a q
        omega
      · have := Int.ediv_nonpos_of_nonpos_of_neg q ha
        omega
/-- the text with a character behind it -/
def txA (t : TD) (x : Int32) : TD := if t.1.toInt < 60 then (Int32.ofInt (t.1.toInt + 1), upd t.2 t.1.toInt.toNat x) else t
theorem txA_eq {t : TD} {x z : Int32} (h : t.1.toInt < 60) (hz : z = Int32.ofInt (t.1.toInt + 1)) : ((z, upd t.2 t.1.toInt.toNat x) : TD) = txA t x := by
  unfold txA
  rw [if_pos h, hz]
theorem txA_same {t : TD} {x : Int32} (h : 60 ≤ t.1.toInt) : t = txA t x := by
  unfold txA
  rw [if_neg (by omega)]
theorem TX.to {G : xG} {H : Heap} {x : Nat} {t t' : TD} (h : TX G H x t) (e : t = t') : TX G H x t' := e ▸ h
theorem zi_narC2 {v : Int32} (h : 0 ≤ v.toInt ∧ v.toInt ≤ 65535) : vp_nar .char v = v := by
  have h1 := zi_narC h
  unfold vp_nar
  rw [h1]
