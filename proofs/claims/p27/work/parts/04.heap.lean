/-! cells one by one: what a cell holds; rows that read and write them, with the frame said outright -/
abbrev xG : Type := va_G × (ClassId × ClassId × ClassId × ClassId × ClassId)
abbrev xtys (G : xG) : List (ClassId × FieldType) := [(G.2.1, .int), (G.2.2.1, .char), (G.2.2.2.1, .object RX3), (G.2.2.2.2.1, .object RX0), (G.2.2.2.2.2, .object RX2)]
/-- the links to private static methods of the class around -/
def xN (s : State) : Prop := va_Nw (.methodLinkNest RX0 92 yX4_shareOf RX4) s
theorem xN.moved {u U : State} (h : u.WarmedH U.vm) (hN : xN u) : xN U := (show va_Nw (.methodLinkNest RX0 92 yX4_shareOf RX4) u from hN).warmM h
theorem xN.same {u U : State} (h : u.vm = U.vm) (hN : xN u) : xN U := va_tabs rfl h (show va_Nw (.methodLinkNest RX0 92 yX4_shareOf RX4) u from hN)
def xK (G : xG) (s : State) : Prop := va_K G.1 vwCl (xtys G) s ∧ xN s
theorem xK.moved {G : xG} {u U : State} (h : u.WarmedH U.vm) (hK : xK G u) : xK G U := ⟨va_K.moved h.alike hK.1, hK.2.moved h⟩
theorem xK.same {G : xG} {u U : State} (h : u.vm = U.vm) (hK : xK G u) : xK G U := ⟨va_K.moved (by rw [h]; exact Vm.Alike.refl U.vm) hK.1, hK.2.same h⟩
abbrev xat (G : xG) (H : Heap) (a : Nat) (e : va_E) : Prop := va_at G.1 vwCl (a, e) H
theorem xP1 {G : xG} {H : Heap} {a : Nat} {e : va_E} (h : xat G H a e) : va_P G.1 vwCl [(a, e)] H := by
  intro k q hk
  match k, hk with
  | 0, hk => cases hk; exact h
  | k + 1, hk => simp at hk
theorem xat.kept {G : xG} {H H1 : Heap} {a : Nat} {e : va_E} (h : xat G H a e) (hq : H1[a]? = H[a]?) : xat G H1 a e := va_at.kept h hq
/-- an array's contents beyond its length don't count -/
theorem xat.row {G : xG} {H : Heap} {a n : Nat} {cA : ClassId} {f g : Nat → Int32} (h : xat G H a (.inl (cA, n, .inl f))) (e : ∀ j, j < n → f j = g j) : xat G H a (.inl (cA, n, .inl g)) := by
  have h1 : H[a]? = some (vp_cell cA (n, .inl f)) := h
  show H[a]? = some (vp_cell cA (n, .inl g))
  rw [h1, vp_cell_i, vp_cell_i]
  congr 1
  unfold arrV
  congr 1
  apply Array.ext
  · simp
  · intro i h1 h2
    simp only [Array.getElem_ofFn]
    rw [e i (by simpa using h1)]
theorem xat.rowq {G : xG} {H : Heap} {a n : Nat} {cA : ClassId} {f g : Nat → Option Nat} (h : xat G H a (.inl (cA, n, .inr (.inr (.inr (.inr f)))))) (e : ∀ j, j < n → f j = g j) : xat G H a (.inl (cA, n, .inr (.inr (.inr (.inr g))))) := by
  have h1 : H[a]? = some (vp_cell cA (n, .inr (.inr (.inr (.inr f))))) := h
  show H[a]? = some (vp_cell cA (n, .inr (.inr (.inr (.inr g)))))
  rw [h1, vp_cell_q, vp_cell_q]
  congr 1
  unfold arrV
  congr 1
  apply Array.ext
  · simp
  · intro i h1 h2
    simp only [Array.getElem_ofFn]
    rw [e i (by simpa using h1)]
section XR
variable {p : Program} {l : Launch} {e : Env} {R : Room} {s : State} {m : MethodId} {args : Array Value} {below : List Frame} {meth : Method} {c : Code} {H : Heap} {locs : List Loc} {cells slots : Nat} {Q : State → Prop}
variable {cc : ByteArray} {pc : Nat} {ls : Array Slot} {rest : List Value} {G : xG} {A : Nat → Prop} {a : Nat} {H0 : Heap}
theorem z_get (hx : p.tables.exec = Jvm.exec) (hb : c.code = cc) {own ref C : String} {T : u_T} {N ci index : Nat} {Ts : List Cond} (hts : ∀ w ∈ Ts, w.before args s = true) (hin : ∀ w ∈ u_ws C T N, w ∈ Ts) (hown : s.vm.findClass own = some m.cls) (hK : xK G s) {fs : List Value} (hA : xat G H a (.inr (ci, fs))) (hc : vwCl[ci]? = some (C, T, N)) (k : Nat) (hk : k < N) (hlink : Cond.fieldLink own index ref (T k).2.1 (T k).2.2.1 ∈ Ts) (hr : (T k).1 = ref) {v : Value} (hv : fs[k]? = some v) (hdg : decode cc pc = .ok (.getfield index, 3))
    (kk : W p l e R s m args below meth c H locs cells slots Q (F0 m (pc + 3) ls (v :: rest))) : W p l e R s m args below meth c H locs cells slots Q (F0 m pc ls (.ref a :: rest)) :=
  va_get (D := G.1) (ws := [(a, .inr (ci, fs))]) hx hb hts hin hown hK.1 (xP1 hA) 0 rfl hc k hk (hts _ hlink) (fun x h => by rw [← hr]; exact h) hv hdg kk
theorem z_put (hx : p.tables.exec = Jvm.exec) (hb : c.code = cc) {own ref C : String} {T : u_T} {N ci index : Nat} {Ts : List Cond} (hts : ∀ w ∈ Ts, w.before args s = true) (hin : ∀ w ∈ u_ws C T N, w ∈ Ts) (ty0 : Nat → FieldType) (hty : ∀ k, k < N → parseFieldDescriptor (T k).2.2.1 = some (ty0 k)) (hnm : ∀ a, a < N → ∀ b, b < N → a ≠ b → (T a).2.1 ≠ (T b).2.1) (hown : s.vm.findClass own = some m.cls) (hK : xK G s) {fs : List Value} (hA : xat G H a (.inr (ci, fs))) (hc : vwCl[ci]? = some (C, T, N)) (hS0 : va_S A H0 H locs) (ha : A a) (k : Nat) (hk : k < N) (hlink : Cond.fieldLink own index ref (T k).2.1 (T k).2.2.1 ∈ Ts) (hr : (T k).1 = ref) (hfin : (T k).2.2.2 = false) {ty : FieldType} {v : Value} (hd : parseFieldDescriptor (T k).2.2.1 = some ty) (hn : narrow ty v = v) (hfit : fits ty v = true) (hl : k < fs.length)
    (hdg : decode cc pc = .ok (.putfield index, 3)) (kk : ∀ (H1 : Heap) (locs1 : List Loc), xat G H1 a (.inr (ci, fs.set k v)) → H1.size = H.size → (∀ q : Nat, q ≠ a → H1[q]? = H[q]?) → va_S A H0 H1 locs1 → W p l e R s m args below meth c H1 locs1 cells slots Q (F0 m (pc + 3) ls rest)) : W p l e R s m args below meth c H locs cells slots Q (F0 m pc ls (v :: .ref a :: rest)) := by
  have hK' : va_K G.1 vwCl (xtys G) s := hK.1
  have hap := va_apart (own := own) hts hin ty0 hty hnm hK' hc
  obtain ⟨r, h1, cell, q1, q2, q3, q4⟩ := hA
  have hr2 : r = (C, T, N) := Option.some.inj (h1.symm.trans hc)
  subst hr2
  obtain ⟨hS, hfc, kC, hkC, hkind⟩ := hK'.1 ci _ hc
  obtain ⟨cf, kf, fi, f, hi, hsl⟩ := hS k hk
  have hlay := hts _ (hin _ (u_in_lay hk))
  unfold u_lay at hlay
  rw [if_neg (by rw [hfin]; decide)] at hlay
  have hst := (u_facts hfc hkC (u_lays hts hin hk) hi).1
  have h6 := u_store hfc hkC hkind hlay hi hd hn hfit
  refine W.putK hx hb (f := f) ⟨hown, hts _ hlink, ⟨_, _, _, by rw [← hr]; exact hi⟩, hst⟩ (by rw [q2]; exact h6) q1 q3 (by rw [hsl]; exact k2_hasslot (q4 k hk)) rfl rfl hdg fun H' e1 e2 e3 => ?_
  rw [hsl] at e1 ⊢
  exact kk H' _ ⟨_, hc, t_OB.to (V := updV (vp_V fs) k v) ⟨_, e1, q2, q3, t_set q4 hap hk v⟩ (fun j _ => vp_updV_set hl v j)⟩ e2 e3 (hS0.put e2 e3 ha)
theorem z_iald (hx : p.tables.exec = Jvm.exec) (hb : c.code = cc) (hK : xK G s) (t0 : Nat) {cA : ClassId} {n : Nat} {f : Nat → Int32} (hA : xat G H a (.inl (cA, n, .inl f))) (ht : (xtys G)[t0]? = some (cA, .int)) {x : Int32} {i : Int} (hX : x.toInt = i) (h : 0 ≤ i ∧ i < (n : Int)) (hdg : decode cc pc = .ok (.iaload, 1))
    (kk : W p l e R s m args below meth c H locs cells slots Q (F0 m (pc + 1) ls (.int (f i.toNat) :: rest))) : W p l e R s m args below meth c H locs cells slots Q (F0 m pc ls (.int x :: .ref a :: rest)) := by
  refine va_iald (D := G.1) (ws := [(a, .inl (cA, n, .inl f))]) hx hb hK.1 (xP1 hA) 0 t0 rfl ht (zi_in hX h) hdg ?_
  rw [zi_cl hX]
  exact kk
theorem z_cald (hx : p.tables.exec = Jvm.exec) (hb : c.code = cc) (hK : xK G s) (t0 : Nat) {cA : ClassId} {n : Nat} {f : Nat → Int32} (hA : xat G H a (.inl (cA, n, .inl f))) (ht : (xtys G)[t0]? = some (cA, .char)) {x : Int32} {i : Int} (hX : x.toInt = i) (h : 0 ≤ i ∧ i < (n : Int)) (hdg : decode cc pc = .ok (.caload, 1))
    (kk : W p l e R s m args below meth c H locs cells slots Q (F0 m (pc + 1) ls (.int (f i.toNat) :: rest))) : W p l e R s m args below meth c H locs cells slots Q (F0 m pc ls (.int x :: .ref a :: rest)) := by
  refine va_cald (D := G.1) (ws := [(a, .inl (cA, n, .inl f))]) hx hb hK.1 (xP1 hA) 0 t0 rfl ht (zi_in hX h) hdg ?_
  rw [zi_cl hX]
  exact kk
theorem z_iast (hx : p.tables.exec = Jvm.exec) (hb : c.code = cc) (hK : xK G s) (t0 : Nat) {cA : ClassId} {n : Nat} {f : Nat → Int32} (hA : xat G H a (.inl (cA, n, .inl f))) (ht : (xtys G)[t0]? = some (cA, .int)) (hS : va_S A H0 H locs) (ha : A a) {x z : Int32} {i : Int} (hX : x.toInt = i) (h : 0 ≤ i ∧ i < (n : Int)) (hdg : decode cc pc = .ok (.iastore, 1))
    (kk : ∀ (H1 : Heap) (locs1 : List Loc), xat G H1 a (.inl (cA, n, .inl (upd f i.toNat z))) → H1.size = H.size → (∀ q : Nat, q ≠ a → H1[q]? = H[q]?) → va_S A H0 H1 locs1 → W p l e R s m args below meth c H1 locs1 cells slots Q (F0 m (pc + 1) ls rest)) : W p l e R s m args below meth c H locs cells slots Q (F0 m pc ls (.int z :: .int x :: .ref a :: rest)) := by
  have hc : H[a]? = some (vp_cell cA (n, .inl f)) := hA
  refine W.iast hx hb hc ((hK.1.2 t0 _ ht).1 n (fun j => .int (f j))) (fun q => by cases q) (by show ¬ (x < 0 ∨ (arrV _ _ _).slots.size ≤ _); rw [arrV_size]; exact zi_in hX h) rfl rfl hdg fun H1 e9 z9 oq => ?_
  rw [← zi_cl hX] at kk
  refine kk H1 _ ?_ z9 oq (hS.put z9 oq ha)
  show H1[a]? = some (vp_cell _ _)
  rw [e9]
  rw [vp_cell_i, vp_cell_i, arrV_store]
  congr 2
  funext j
  by_cases hj : j = x.toNatClampNeg <;> simp [upd, updV, hj]
theorem z_cast (hx : p.tables.exec = Jvm.exec) (hb : c.code = cc) (hK : xK G s) (t0 : Nat) {cA : ClassId} {n : Nat} {f : Nat → Int32} (hA : xat G H a (.inl (cA, n, .inl f))) (ht : (xtys G)[t0]? = some (cA, .char)) (hS : va_S A H0 H locs) (ha : A a) {x z : Int32} {i : Int} (hX : x.toInt = i) (h : 0 ≤ i ∧ i < (n : Int)) (hz : vp_nar .char z = z) (hdg : decode cc pc = .ok (.castore, 1))
    (kk : ∀ (H1 : Heap) (locs1 : List Loc), xat G H1 a (.inl (cA, n, .inl (upd f i.toNat z))) → H1.size = H.size → (∀ q : Nat, q ≠ a → H1[q]? = H[q]?) → va_S A H0 H1 locs1 → W p l e R s m args below meth c H1 locs1 cells slots Q (F0 m (pc + 1) ls rest)) : W p l e R s m args below meth c H locs cells slots Q (F0 m pc ls (.int z :: .int x :: .ref a :: rest)) := by
  have hc : H[a]? = some (vp_cell cA (n, .inl f)) := hA
  refine W.cast hx hb hc ((hK.1.2 t0 _ ht).1 n (fun j => .int (f j))) (fun q => by cases q) (by show ¬ (x < 0 ∨ (arrV _ _ _).slots.size ≤ _); rw [arrV_size]; exact zi_in hX h) rfl rfl hdg fun H1 e9 z9 oq => ?_
  rw [← zi_cl hX] at kk
  refine kk H1 _ ?_ z9 oq (hS.put z9 oq ha)
  show H1[a]? = some (vp_cell _ _)
  rw [e9]
  rw [vp_cell_i, vp_cell_i, arrV_store]
  congr 2
  funext j
  have hz' : narrow .char (.int z) = .int z := by
    have h9 : narrow .char (.int z) = .int (vp_nar .char z) := rfl
    rw [h9, hz]
  by_cases hj : j = x.toNatClampNeg <;> simp [upd, updV, hj, hz']
theorem z_aald (hx : p.tables.exec = Jvm.exec) (hb : c.code = cc) (hK : xK G s) (t0 : Nat) {cA : ClassId} {C : String} {n b : Nat} {f : Nat → Option Nat} (hA : xat G H a (.inl (cA, n, .inr (.inr (.inr (.inr f)))))) (ht : (xtys G)[t0]? = some (cA, .object C)) {x : Int32} {i : Int} (hX : x.toInt = i) (h : 0 ≤ i ∧ i < (n : Int)) (hf : f i.toNat = some b) (hdg : decode cc pc = .ok (.aaload, 1))
    (kk : W p l e R s m args below meth c H locs cells slots Q (F0 m (pc + 1) ls (.ref b :: rest))) : W p l e R s m args below meth c H locs cells slots Q (F0 m pc ls (.int x :: .ref a :: rest)) := by
  refine va_aldq (D := G.1) (ws := [(a, .inl (cA, n, .inr (.inr (.inr (.inr f)))))]) hx hb hK.1 (xP1 hA) 0 t0 rfl ht (zi_in hX h) hdg ?_
  rw [zi_cl hX, hf]
  exact kk
theorem z_alen (hx : p.tables.exec = Jvm.exec) (hb : c.code = cc) (hK : xK G s) (t0 : Nat) {cA : ClassId} {y : vp_A} (hA : xat G H a (.inl (cA, y))) {ty : FieldType} (ht : (xtys G)[t0]? = some (cA, ty)) {v : Int32} (hv : Int32.ofNat y.1 = v) (hdg : decode cc pc = .ok (.arraylength, 1))
    (kk : W p l e R s m args below meth c H locs cells slots Q (F0 m (pc + 1) ls (.int v :: rest))) : W p l e R s m args below meth c H locs cells slots Q (F0 m pc ls (.ref a :: rest)) :=
  va_alen (D := G.1) (ws := [(a, .inl (cA, y))]) hx hb hK.1 (xP1 hA) 0 t0 rfl ht hv hdg kk
end XR
/-! contracts: what a method asks and what it gives -/
def zPre (G : xG) (P : Heap → Prop) : State → Prop := fun U => xK G U ∧ P U.heap
/-- returns an int of which post says something; the heap is as it was -/
abbrev zS (post : Int32 → Prop) : Array Value → State → Outcome → State → Prop := vp_Si post
/-- returns an int; the cells in A may have changed, B holds of the heap then -/
def zW (post : Int32 → Prop) (B : Heap → Prop) (A : Nat → Prop) : Array Value → State → Outcome → State → Prop := fun _ st o t => (∃ r : Int32, o = .returned (some (.int r)) ∧ post r) ∧ B t.heap ∧ va_F A st t
def zV (B : Heap → Prop) (A : Nat → Prop) : Array Value → State → Outcome → State → Prop := fun _ st o t => o = .returned none ∧ B t.heap ∧ va_F A st t
abbrev zno : Nat → Prop := fun _ => False
/-- n cells from a on -/
def iv (a n : Nat) : Nat → Prop := fun q => a ≤ q ∧ q < a + n
theorem zPre.blind {G : xG} {P : Heap → Prop} {av : List Value} : FrameBlind (va_Pc av (zPre G P)) := fun a U g mk q => ⟨q.1, xK.same (u := U) (U := U.calling g mk a) rfl q.2.1, q.2.2⟩
theorem z_ofW {l : Launch} {y : MethodName} {ws ws' : List Cond} {G : xG} {P : Heap → Prop} {av : List Value} {Qc : Array Value → State → Outcome → State → Prop} {free : Addr → Prop} {cc : ByteArray} {maxL : Nat} {ret : Option FieldType} {rm : Room}
    (hy : plainName y.cls = true) (hw : ws = Cond.code y cc maxL ret :: ws') (hlen : (lg_sl av).length ≤ maxL)
    (body : ∀ p e s m below meth c, p.tables.exec = Jvm.exec → c.code = cc → c.maxLocals = maxL → meth.sig.returnType = ret → (∀ w ∈ ws, w.before av.toArray s = true) → s.vm.findClass y.cls = some m.cls → meth.locks = false → xK G s → P s.heap → ∀ ls, lv_has ls maxL (lv_args 0 av) →
      W p l e rm s m av.toArray below meth c s.heap [] 0 0 (MQ below Qc av.toArray s 0 0 free) (F0 m 0 ls [])) : Met l y ws rm (va_Pc av (zPre G P)) Qc 0 0 free := by
  refine Met.ofW (cc := cc) (maxL := maxL) (ret := ret) hy hw ?_
  intro p e s m args below meth c s₁ B hml hv
  obtain ⟨rfl, hK, hP⟩ := hv
  have hl := lv_entry av (n := maxL) hlen
  rw [lg_entry_eq]
  exact body p e s m below meth c B.exec B.bytes hml B.returns (atoms_spec (ws := ws) B.pre) (findClass_of_methodNamed B.named) B.notSynchronized hK hP _ hl
section XC
variable {p : Program} {l : Launch} {e : Env} {R : Room} {s : State} {m : MethodId} {args : Array Value} {below : List Frame} {meth : Method} {c : Code} {H : Heap} {locs : List Loc} {cells slots : Nat} {Q : State → Prop}
variable {cc bytes : ByteArray} {pc : Nat} {ls : Array Slot} {rest st : List Value} {G : xG} {A A1 : Nat → Prop} {b : Nat} {H0 : Heap}
variable {Ts ws : List Cond} {nL maxL index n : Nat} {own C : String} {y : MethodName} {ret : Option FieldType} {rm : Room} {P B : Heap → Prop} {post : Int32 → Prop} {As : List Value} {free : Addr → Prop}
theorem z_recv {T : u_T} {N ci : Nat} {fs : List Value} (hK : xK G s) (hA : xat G H b (.inr (ci, fs))) (hc : vwCl[ci]? = some (C, T, N)) : ∃ cell : Cell, H[b]? = some cell ∧ cell.vm.isStatics = false ∧ s.vm.findClass C = some cell.cls :=
  va_recv (D := G.1) (ws := [(b, .inr (ci, fs))]) (q0 := 0) hK.1 (xP1 hA) hc rfl
/-- an instance method that only reads -/
theorem z_cV (S : CallFix p m c cc nL s args Ts own) (hM : Met l y ws rm (va_Pc (.ref b :: As) (zPre G P)) (zS post) 0 0 zno) (cw : CallW R s args own C index y bytes maxL ret ws rm 0 0 n) (hK : xK G s) (hP : P H) {T : u_T} {N ci : Nat} {fs : List Value} (hA : xat G H b (.inr (ci, fs))) (hc : vwCl[ci]? = some (C, T, N))
    (hn : As.length = n) (hsize : ls.size = nL) (hst : st = As.reverse ++ .ref b :: rest) (hW : (rest.map fun v => v.category).sum ≤ 8) (hdg : decode cc pc = .ok (.invokevirtual index, 3)) (hf : cells ≤ R.cells ∧ slots ≤ R.slots)
    (kk : ∀ v : Int32, post v → W p l e R s m args below meth c H locs cells slots Q (F0 m (pc + 3) ls (.int v :: rest))) : W p l e R s m args below meth c H locs cells slots Q (F0 m pc ls st) := by
  have hr := W.runV (H := H) (locs := locs) (cells := cells) (slots := slots) (e := e) (below := below) (meth := meth) (g := F0 m pc ls st) S hM cw ⟨zPre.blind, z_recv hK hA hc, fun U hU hW => ⟨rfl, xK.moved hW hK, by rw [hU]; exact hP⟩⟩ rfl hn hsize hst (lv_room hW) hdg hf
  intro T0 hT X
  obtain ⟨v, st₀, t, T', L, h0, X', hL, e1, ⟨r, hv, hpo, hh⟩, stp⟩ := hr T0 hT X
  cases hv
  obtain ⟨t2, a1, b1⟩ := kk r hpo T' (by rw [e1, hh, h0]) (Stand.forget X' (fun q h => (hL q h).elim))
  exact ⟨t2, stp t2 a1, b1⟩
/-- a static method that only reads -/
theorem z_cS (S : CallFix p m c cc nL s args Ts own) (hM : Met l y ws rm (va_Pc As (zPre G P)) (zS post) 0 0 zno) (cw : CallB R s args own index y bytes maxL ret ws rm 0 0 n ∧ (Cond.static y).before args s = true) (hK : xK G s) (hP : P H)
    (hn : As.length = n) (hsize : ls.size = nL) (hst : st = As.reverse ++ rest) (hW : (rest.map fun v => v.category).sum ≤ 8) (hdg : decode cc pc = .ok (.invokestatic index, 3)) (hf : cells ≤ R.cells ∧ slots ≤ R.slots)
    (kk : ∀ v : Int32, post v → W p l e R s m args below meth c H locs cells slots Q (F0 m (pc + 3) ls (.int v :: rest))) : W p l e R s m args below meth c H locs cells slots Q (F0 m pc ls st) := by
  have hr := W.runS (H := H) (locs := locs) (cells := cells) (slots := slots) (e := e) (below := below) (meth := meth) (g := F0 m pc ls st) S hM cw ⟨zPre.blind, fun U hU hW => ⟨rfl, xK.moved hW hK, by rw [hU]; exact hP⟩⟩ rfl hn hsize hst (lv_room hW) hdg hf
  intro T0 hT X
  obtain ⟨v, st₀, t, T', L, h0, X', hL, e1, ⟨r, hv, hpo, hh⟩, stp⟩ := hr T0 hT X
  cases hv
  obtain ⟨t2, a1, b1⟩ := kk r hpo T' (by rw [e1, hh, h0]) (Stand.forget X' (fun q h => (hL q h).elim))
  exact ⟨t2, stp t2 a1, b1⟩
/-- a private static method of the class around, that only reads -/
theorem z_cN {host : String} (S : CallFix p m c cc nL s args Ts own) (hM : Met l y ws rm (va_Pc As (zPre G P)) (zS post) 0 0 zno) (cw : va_CN R s args own index y host bytes maxL ret ws rm 0 0 n ∧ (Cond.static y).before args s = true ∧ True) (hK : xK G s) (hP : P H)
    (hn : As.length = n) (hsize : ls.size = nL) (hst : st = As.reverse ++ rest) (hW : (rest.map fun v => v.category).sum ≤ 8) (hdg : decode cc pc = .ok (.invokestatic index, 3)) (hf : cells ≤ R.cells ∧ slots ≤ R.slots)
    (kk : ∀ v : Int32, post v → W p l e R s m args below meth c H locs cells slots Q (F0 m (pc + 3) ls (.int v :: rest))) : W p l e R s m args below meth c H locs cells slots Q (F0 m pc ls st) := by
  have hr := va_runSN (H := H) (locs := locs) (cells := cells) (slots := slots) (e := e) (below := below) (meth := meth) (g := F0 m pc ls st) S hM cw ⟨zPre.blind, fun U hU hW => ⟨rfl, xK.moved hW hK, by rw [hU]; exact hP⟩⟩ rfl hn hsize hst (lv_room hW) hdg hf
  intro T0 hT X
  obtain ⟨v, st₀, t, T', L, h0, X', hL, e1, e2, ⟨r, hv, hpo, hh⟩, stp⟩ := hr T0 hT X
  cases hv
  obtain ⟨t2, a1, b1⟩ := kk r hpo T' (by rw [e1, hh, h0]) (Stand.forget X' (fun q h => (hL q h).elim))
  exact ⟨t2, stp t2 a1, b1⟩
theorem z_after {hS0 : va_S A H0 H locs} {T' t st₀ : State} {L : List Loc} (hA1 : ∀ q, A1 q → A q) (h0 : st₀.heap = H) (hL : ∀ q ∈ L, A1 q.base) (hF : va_F A1 st₀ t) : va_S A H0 t.heap (locs ++ L) := by
  rw [← h0] at hS0
  refine ⟨Nat.le_trans hS0.1 hF.1, fun q h1 h2 => ?_, fun q hq => ?_⟩
  · rw [hF.2 q (Nat.lt_of_lt_of_le h1 hS0.1) (fun z => h2 (hA1 q z))]
    exact hS0.2.1 q h1 h2
  · rcases List.mem_append.mp hq with h | h
    · exact hS0.2.2 q h
    · exact hA1 _ (hL q h)
/-- an instance method that writes in A1 and answers an int -/
theorem z_cVw (S : CallFix p m c cc nL s args Ts own) (hM : Met l y ws rm (va_Pc (.ref b :: As) (zPre G P)) (zW post B A1) 0 0 A1) (cw : CallW R s args own C index y bytes maxL ret ws rm 0 0 n) (hK : xK G s) (hP : P H) {T : u_T} {N ci : Nat} {fs : List Value} (hA : xat G H b (.inr (ci, fs))) (hc : vwCl[ci]? = some (C, T, N))
    (hn : As.length = n) (hsize : ls.size = nL) (hst : st = As.reverse ++ .ref b :: rest) (hW : (rest.map fun v => v.category).sum ≤ 8) (hdg : decode cc pc = .ok (.invokevirtual index, 3)) (hf : cells ≤ R.cells ∧ slots ≤ R.slots) (hS : va_S A H0 H locs) (hA1 : ∀ q, A1 q → A q)
    (kk : ∀ (v : Int32) (H1 : Heap) (locs1 : List Loc), post v → B H1 → H.size ≤ H1.size → (∀ q : Nat, q < H.size → ¬ A1 q → H1[q]? = H[q]?) → va_S A H0 H1 locs1 → W p l e R s m args below meth c H1 locs1 cells slots Q (F0 m (pc + 3) ls (.int v :: rest))) : W p l e R s m args below meth c H locs cells slots Q (F0 m pc ls st) := by
  have hr := W.runV (H := H) (locs := locs) (cells := cells) (slots := slots) (e := e) (below := below) (meth := meth) (g := F0 m pc ls st) S hM cw ⟨zPre.blind, z_recv hK hA hc, fun U hU hW => ⟨rfl, xK.moved hW hK, by rw [hU]; exact hP⟩⟩ rfl hn hsize hst (lv_room hW) hdg hf
  intro T0 hT X
  obtain ⟨v, st₀, t, T', L, h0, X', hL, e1, ⟨⟨r, hv, hpo⟩, hB, hF⟩, stp⟩ := hr T0 hT X
  cases hv
  obtain ⟨t2, a1, b1⟩ := kk r t.heap _ hpo hB (by rw [← h0]; exact hF.1) (by rw [← h0]; exact hF.2) (z_after (T' := T') (hS0 := hS) hA1 h0 hL hF) T' e1 X'
  exact ⟨t2, stp t2 a1, b1⟩
theorem z_cVv (S : CallFix p m c cc nL s args Ts own) (hM : Met l y ws rm (va_Pc (.ref b :: As) (zPre G P)) (zV B A1) 0 0 A1) (cw : CallW R s args own C index y bytes maxL ret ws rm 0 0 n) (hK : xK G s) (hP : P H) {T : u_T} {N ci : Nat} {fs : List Value} (hA : xat G H b (.inr (ci, fs))) (hc : vwCl[ci]? = some (C, T, N))
    (hn : As.length = n) (hsize : ls.size = nL) (hst : st = As.reverse ++ .ref b :: rest) (hW : (rest.map fun v => v.category).sum ≤ 8) (hdg : decode cc pc = .ok (.invokevirtual index, 3)) (hf : cells ≤ R.cells ∧ slots ≤ R.slots) (hS : va_S A H0 H locs) (hA1 : ∀ q, A1 q → A q)
    (kk : ∀ (H1 : Heap) (locs1 : List Loc), B H1 → H.size ≤ H1.size → (∀ q : Nat, q < H.size → ¬ A1 q → H1[q]? = H[q]?) → va_S A H0 H1 locs1 → W p l e R s m args below meth c H1 locs1 cells slots Q (F0 m (pc + 3) ls rest)) : W p l e R s m args below meth c H locs cells slots Q (F0 m pc ls st) := by
  have hr := W.runV (H := H) (locs := locs) (cells := cells) (slots := slots) (e := e) (below := below) (meth := meth) (g := F0 m pc ls st) S hM cw ⟨zPre.blind, z_recv hK hA hc, fun U hU hW => ⟨rfl, xK.moved hW hK, by rw [hU]; exact hP⟩⟩ rfl hn hsize hst (lv_room hW) hdg hf
  intro T0 hT X
  obtain ⟨v, st₀, t, T', L, h0, X', hL, e1, ⟨hv, hB, hF⟩, stp⟩ := hr T0 hT X
  cases hv
  obtain ⟨t2, a1, b1⟩ := kk t.heap _ hB (by rw [← h0]; exact hF.1) (by rw [← h0]; exact hF.2) (z_after (T' := T') (hS0 := hS) hA1 h0 hL hF) T' e1 X'
  exact ⟨t2, stp t2 a1, b1⟩
end XC
section XE
variable {p : Program} {l : Launch} {e : Env} {R : Room} {s : State} {m : MethodId} {args : Array Value} {below : List Frame} {meth : Method} {c : Code} {H : Heap} {locs : List Loc}
variable {cc : ByteArray} {pc : Nat} {ls : Array Slot} {post : Int32 → Prop} {B : Heap → Prop} {A : Nat → Prop}
/-- the ends of a method -/
theorem z_ri (hx : p.tables.exec = Jvm.exec) (hb : c.code = cc) (hr : meth.sig.returnType = some .int) (hk : meth.locks = false) {v : Int32} (hv : post v) (hdg : decode cc pc = .ok (.ireturn, 1)) : W p l e R s m args below meth c s.heap [] 0 0 (MQ below (zS post) args s 0 0 zno) (F0 m pc ls [.int v]) :=
  W.iret (v := v) hx hb hr (fun t ht _ => ⟨v, rfl, hv, ht⟩) (fun q h => by cases h) hdg hk
theorem z_rb (hx : p.tables.exec = Jvm.exec) (hb : c.code = cc) (hr : meth.sig.returnType = some .boolean) (hk : meth.locks = false) {v : Int32} (hn : narrow .boolean (.int v) = .int v) (hv : post v) (hdg : decode cc pc = .ok (.ireturn, 1)) : W p l e R s m args below meth c s.heap [] 0 0 (MQ below (zS post) args s 0 0 zno) (F0 m pc ls [.int v]) :=
  W.zret (v := v) hx hb hr hn (fun t ht _ => ⟨v, rfl, hv, ht⟩) (fun q h => by cases h) hdg hk
theorem z_rc (hx : p.tables.exec = Jvm.exec) (hb : c.code = cc) (hr : meth.sig.returnType = some .char) (hk : meth.locks = false) {v : Int32} (hn : narrow .char (.int v) = .int v) (hv : post v) (hdg : decode cc pc = .ok (.ireturn, 1)) : W p l e R s m args below meth c s.heap [] 0 0 (MQ below (zS post) args s 0 0 zno) (F0 m pc ls [.int v]) :=
  W.zret (v := v) hx hb hr hn (fun t ht _ => ⟨v, rfl, hv, ht⟩) (fun q h => by cases h) hdg hk
theorem z_riw (hx : p.tables.exec = Jvm.exec) (hb : c.code = cc) (hr : meth.sig.returnType = some .int) (hk : meth.locks = false) {v : Int32} (hv : post v) (hB : B H) (hS : va_S A s.heap H locs) (hdg : decode cc pc = .ok (.ireturn, 1)) : W p l e R s m args below meth c H locs 0 0 (MQ below (zW post B A) args s 0 0 A) (F0 m pc ls [.int v]) :=
  W.iret (v := v) hx hb hr (fun t ht _ => ⟨⟨v, rfl, hv⟩, by rw [ht]; exact hB, hS.F ht⟩) hS.2.2 hdg hk
theorem z_rv (hx : p.tables.exec = Jvm.exec) (hb : c.code = cc) (hr : meth.sig.returnType = none) (hk : meth.locks = false) (hB : B H) (hS : va_S A s.heap H locs) (hdg : decode cc pc = .ok (.return_, 1)) : W p l e R s m args below meth c H locs 0 0 (MQ below (zV B A) args s 0 0 A) (F0 m pc ls []) :=
  W.vret hx hb hr (fun t ht _ => ⟨rfl, by rw [ht]; exact hB, hS.F ht⟩) hS.2.2 hdg hk
end XE
