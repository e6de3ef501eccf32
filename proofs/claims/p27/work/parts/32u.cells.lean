/-! cells that are not whole yet: one row of 120 numbers, a gauge without its rows, a State without its gauges -/
theorem upd_f {f g : Nat → Int32} (i : Nat) {v : Int32} (h : ∀ j, j ≠ i → f j = g j) (hd : v = g i) : upd f i v = g := by
  funext j
  by_cases e : j = i
  · subst e
    rw [upd_at]
    exact hd
  · rw [upd_ne e]
    exact h j e
def RWA (G : xG) (H : Heap) (a : Nat) (f : Nat → Int32) : Prop := xat G H a (.inl (G.2.1, 120, .inl f))
theorem RWA.kept {G : xG} {H H1 : Heap} {w : Nat} {v : Nat → Int32} (h : RWA G H w v) (hq : ∀ q : Nat, w ≤ q → q < w + 1 → H1[q]? = H[q]?) : RWA G H1 w v := by
  unfold RWA at *
  exact xat.kept h (hq w (by omega) (by omega))
theorem RWA.lt {G : xG} {H : Heap} {w : Nat} {v : Nat → Int32} (h : RWA G H w v) : w < H.size := by
  unfold RWA at h
  exact va_at.lt h
theorem RWA.to {G : xG} {H : Heap} {w : Nat} {v v' : Nat → Int32} (h : RWA G H w v) (e : v = v') : RWA G H w v' := e ▸ h
def gB (f : Nat → Int32) : List Value := [.int (f 0), .int (f 1), .int (f 2), .int (f 3), .int (f 4), .int (f 5), .int (f 6), .int (f 7), .int (f 8), .int (f 9), .int (f 10), .int (f 11), .null, .null, .null]
def BG (G : xG) (H : Heap) (g : Nat) (f : Nat → Int32) : Prop := xat G H g (.inr (0, gB f))
theorem BG.kept {G : xG} {H H1 : Heap} {w : Nat} {v : Nat → Int32} (h : BG G H w v) (hq : ∀ q : Nat, w ≤ q → q < w + 1 → H1[q]? = H[q]?) : BG G H1 w v := by
  unfold BG at *
  exact xat.kept h (hq w (by omega) (by omega))
theorem BG.lt {G : xG} {H : Heap} {w : Nat} {v : Nat → Int32} (h : BG G H w v) : w < H.size := by
  unfold BG at h
  exact va_at.lt h
theorem BG.to {G : xG} {H : Heap} {w : Nat} {v v' : Nat → Int32} (h : BG G H w v) (e : v = v') : BG G H w v' := e ▸ h
theorem gB_set (f : Nat → Int32) (k : Nat) (hk : k < 12) (v : Int32) : (gB f).set k (.int v) = gB (upd f k v) := by
  have h : k = 0 ∨ k = 1 ∨ k = 2 ∨ k = 3 ∨ k = 4 ∨ k = 5 ∨ k = 6 ∨ k = 7 ∨ k = 8 ∨ k = 9 ∨ k = 10 ∨ k = 11 := by omega
  rcases h with h | h | h | h | h | h | h | h | h | h | h | h <;> subst h <;> rfl
/-- hour and waves of a State -/
abbrev WD : Type := Int32 × (Nat → Nat → Int32)
def SW (G : xG) (H : Heap) (t : Nat) (ω : WD) : Prop := xat G H t (.inr (2, [.int ω.1, .ref (t + 1), .ref (t + 5)])) ∧ xat G H (t + 1) (.inl (G.2.2.2.1, 3, .inr (.inr (.inr (.inr (fun i => some (t + 2 + i))))))) ∧ ∀ i, i < 3 → WV G H (t + 2 + i) (ω.2 i)
theorem SW.wave {G : xG} {H : Heap} {t i : Nat} {ω : WD} (h : SW G H t ω) (hi : i < 3) : WV G H (t + 2 + i) (ω.2 i) := h.2.2 i hi
theorem SW.kept {G : xG} {H H1 : Heap} {t : Nat} {ω : WD} (h : SW G H t ω) (hq : ∀ q : Nat, t ≤ q → q < t + 5 → H1[q]? = H[q]?) : SW G H1 t ω :=
  ⟨h.1.kept (hq _ (by omega) (by omega)), h.2.1.kept (hq _ (by omega) (by omega)), fun i hi => (h.wave hi).kept (fun q h1 h2 => hq q (by omega) (by omega))⟩
theorem SW.lt {G : xG} {H : Heap} {t : Nat} {ω : WD} (h : SW G H t ω) : t + 4 < H.size := (h.wave (i := 2) (by omega)).lt
theorem SW.to {G : xG} {H : Heap} {t : Nat} {ω ω' : WD} (h : SW G H t ω) (e : ω = ω') : SW G H t ω' := e ▸ h
section XU
variable {p : Program} {l : Launch} {e : Env} {R : Room} {s : State} {m : MethodId} {args : Array Value} {below : List Frame} {meth : Method} {c : Code} {H : Heap} {locs : List Loc} {cells slots : Nat} {Q : State → Prop}
variable {cc : ByteArray} {pc : Nat} {ls : Array Slot} {rest : List Value} {G : xG} {A : Nat → Prop} {a : Nat} {H0 : Heap} {f : Nat → Int32}
theorem z_iastR (hx : p.tables.exec = Jvm.exec) (hb : c.code = cc) (hK : xK G s) (hG : RWA G H a f) (hS0 : va_S A H0 H locs) (ha : A a) {x z : Int32} {i : Int} (hX : x.toInt = i) (h : 0 ≤ i ∧ i < ((120 : Nat) : Int)) (hdg : decode cc pc = .ok (.iastore, 1))
    (kk : ∀ (H1 : Heap) (locs1 : List Loc), RWA G H1 a (upd f i.toNat z) → H1.size = H.size → (∀ q : Nat, q ≠ a → H1[q]? = H[q]?) → va_S A H0 H1 locs1 → W p l e R s m args below meth c H1 locs1 cells slots Q (F0 m (pc + 1) ls rest)) : W p l e R s m args below meth c H locs cells slots Q (F0 m pc ls (.int z :: .int x :: .ref a :: rest)) :=
  z_iast hx hb hK 0 hG rfl hS0 ha hX h hdg kk
theorem z_putB (hx : p.tables.exec = Jvm.exec) (hb : c.code = cc) {own ref : String} {index : Nat} {Ts : List Cond} (hts : ∀ w ∈ Ts, w.before args s = true) (hin : ∀ w ∈ u_ws RX0 TX0 15, w ∈ Ts) (hown : s.vm.findClass own = some m.cls) (hK : xK G s) (hG : BG G H a f) (hS0 : va_S A H0 H locs) (ha : A a) (k : Nat) (hk : k < 12) (hlink : Cond.fieldLink own index ref (TX0 k).2.1 (TX0 k).2.2.1 ∈ Ts) (hr : (TX0 k).1 = ref) (hfin : (TX0 k).2.2.2 = false) {ty : FieldType} {v : Int32} (hd : parseFieldDescriptor (TX0 k).2.2.1 = some ty) (hn : narrow ty (.int v) = .int v) (hfit : fits ty (.int v) = true)
    (hdg : decode cc pc = .ok (.putfield index, 3)) (kk : ∀ (H1 : Heap) (locs1 : List Loc), BG G H1 a (upd f k v) → H1.size = H.size → (∀ q : Nat, q ≠ a → H1[q]? = H[q]?) → va_S A H0 H1 locs1 → W p l e R s m args below meth c H1 locs1 cells slots Q (F0 m (pc + 3) ls rest)) : W p l e R s m args below meth c H locs cells slots Q (F0 m pc ls (.int v :: .ref a :: rest)) := by
  refine z_put hx hb hts hin tyX0 tyX0_ok nmX0 hown hK hG rfl hS0 ha k (by omega) hlink hr hfin hd hn hfit (by show k < 15; omega) hdg (fun H1 locs1 h1 hz hq hS => kk H1 locs1 ?_ hz hq hS)
  rw [gB_set f k hk v] at h1
  exact h1
end XU
/-- how many cells there are -/
def ZS (H : Heap) (n : Nat) : Prop := H.size = n
/-! the beginning -/
def flK (v : Int32) (f : Nat → Int32) (i : Int) : Nat → Int32 := fun j => if (j : Int) < i then v else f j
theorem flK_0 {v : Int32} {f : Nat → Int32} {i : Int} (h : i ≤ 0) : flK v f i = f := by
  funext j
  unfold flK
  rw [if_neg (by omega)]
theorem flK_s {v : Int32} {f : Nat → Int32} {i : Int} (h : 0 ≤ i) : upd (flK v f i) i.toNat v = flK v f (i + 1) := by
  refine upd_f _ (fun j e => ?_) ?_
  · unfold flK
    by_cases c : (j : Int) < i
    · rw [if_pos c, if_pos (by omega)]
    · rw [if_neg c, if_neg (by omega)]
  · unfold flK
    rw [if_pos (by omega)]
def f0 (x : Int32) : Nat → Int32 := upd (upd (upd (upd (upd (fun _ => 0) 0 x) 1 100) 2 0) 8 1) 9 1
def gd0 (x : Int32) : GD := (f0 x, (fun _ => 3), (fun _ => 0), (fun _ => 0))
def wv0 (a p f : Int32) : Nat → Int32 := upd (upd (upd (fun _ => 0) 0 a) 1 p) 2 f
def W0 : Nat → Nat → Int32 := fun i => if i = 0 then wv0 1000 12 0 else wv0 0 24 0
/-- the state at the beginning, but for the floats -/
def st0 : SD := (0, W0, fun i => gd0 (Int32.ofInt i))
theorem W0_ok : ∀ i, i < 3 → waveOk (W0 i) := by
  intro i hi
  rcases (show i = 0 ∨ i = 1 ∨ i = 2 by omega) with e | e | e <;> subst e <;> exact ⟨⟨by decide, by decide⟩, ⟨by decide, by decide⟩, ⟨by decide, by decide⟩⟩
theorem gd0_ok {x : Int32} (hx : 0 ≤ x.toInt ∧ x.toInt ≤ 12) : gaugeOk (gd0 x) 0 := by
  have e0 : ((gd0 x).1 0).toInt = x.toInt := rfl
  have e1 : ((gd0 x).1 1).toInt = 100 := rfl
  have e2 : ((gd0 x).1 2).toInt = 0 := rfl
  have e3 : ((gd0 x).1 3).toInt = 0 := rfl
  have e4 : ((gd0 x).1 4).toInt = 0 := rfl
  have e5 : ((gd0 x).1 5).toInt = 0 := rfl
  have e6 : ((gd0 x).1 6).toInt = 0 := rfl
  have e7 : ((gd0 x).1 7).toInt = 0 := rfl
  have e8 : ((gd0 x).1 8).toInt = 1 := rfl
  have e9 : ((gd0 x).1 9).toInt = 1 := rfl
  have e10 : ((gd0 x).1 10).toInt = 0 := rfl
  have e11 : ((gd0 x).1 11).toInt = 0 := rfl
  refine ⟨⟨by omega, by omega, by omega⟩, ⟨by omega, by omega, by omega, by omega⟩, ⟨by omega, Or.inr e8⟩, ⟨by omega, by omega, by omega⟩, fun j => ?_, fun j => ?_, fun j hj => absurd hj (by omega), fun j _ => rfl, fun j hj => ?_⟩
  · show -1000000 ≤ (0 : Int32).toInt ∧ (0 : Int32).toInt ≤ 1000000
    decide
  · show 0 ≤ (0 : Int32).toInt ∧ (0 : Int32).toInt ≤ 120
    decide
  · have hj2 : (3 : Int32).toInt = 0 := hj
    exact absurd hj2 (by decide)
theorem st0_ok : stOk st0 := by
  refine ⟨⟨by decide, by decide⟩, W0_ok, fun i hi => ?_⟩
  refine gd0_ok ?_
  rw [zi_ofI (by omega)]
  omega
