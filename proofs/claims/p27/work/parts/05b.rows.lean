/-! rows that write: a wave, the text, the reference; System.arraycopy of a gauge's rows; xor by its sign -/
theorem zi_xor (x y : Int32) : (x ^^^ y).toInt < 0 ↔ ¬ (x.toInt < 0 ↔ y.toInt < 0) := by
  have h : ∀ z : Int32, (z.toInt < 0 ↔ z.toBitVec.msb = true) := fun z => by
    rw [BitVec.msb_eq_toInt, decide_eq_true_iff]
    exact Iff.rfl
  rw [h, h, h, Int32.toBitVec_xor, BitVec.msb_xor]
  cases x.toBitVec.msb <;> cases y.toBitVec.msb <;> simp
theorem WV.kept {G : xG} {H H1 : Heap} {w : Nat} {v : Nat → Int32} (h : WV G H w v) (hq : ∀ q : Nat, w ≤ q → q < w + 1 → H1[q]? = H[q]?) : WV G H1 w v := by
  unfold WV at *
  exact xat.kept h (hq w (by omega) (by omega))
theorem WV.lt {G : xG} {H : Heap} {w : Nat} {v : Nat → Int32} (h : WV G H w v) : w < H.size := by
  unfold WV at h
  exact va_at.lt h
theorem WV.to {G : xG} {H : Heap} {w : Nat} {v v' : Nat → Int32} (h : WV G H w v) (e : v = v') : WV G H w v' := e ▸ h
theorem TX.kept {G : xG} {H H1 : Heap} {x : Nat} {t : TD} (h : TX G H x t) (hq : ∀ q : Nat, x ≤ q → q < x + 2 → H1[q]? = H[q]?) : TX G H1 x t := ⟨xat.kept h.1 (hq _ (by omega) (by omega)), xat.kept h.2 (hq _ (by omega) (by omega))⟩
theorem TX.lt {G : xG} {H : Heap} {x : Nat} {t : TD} (h : TX G H x t) : x + 1 < H.size := va_at.lt h.2
section XW2
variable {p : Program} {l : Launch} {e : Env} {R : Room} {s : State} {m : MethodId} {args : Array Value} {below : List Frame} {meth : Method} {c : Code} {H : Heap} {locs : List Loc} {cells slots : Nat} {Q : State → Prop}
variable {cc : ByteArray} {pc : Nat} {ls : Array Slot} {rest : List Value} {G : xG} {A : Nat → Prop} {g a : Nat} {H0 : Heap} {v0 : Nat → Int32} {t : TD}
theorem z_ixor (hx : p.tables.exec = Jvm.exec) (hb : c.code = cc) {x y : Int32} {i j : Int} (hX : x.toInt = i) (hY : y.toInt = j) (hdg : decode cc pc = .ok (.ixor, 1))
    (kk : ∀ z : Int32, (z.toInt < 0 ↔ ¬ (i < 0 ↔ j < 0)) → W p l e R s m args below meth c H locs cells slots Q (F0 m (pc + 1) ls (.int z :: rest))) : W p l e R s m args below meth c H locs cells slots Q (F0 m pc ls (.int y :: .int x :: rest)) :=
  lv_ixor hx hb hdg (kk _ (by rw [← hX, ← hY]; exact zi_xor x y))
theorem z_putW (hx : p.tables.exec = Jvm.exec) (hb : c.code = cc) {own ref : String} {index : Nat} {Ts : List Cond} (hts : ∀ w ∈ Ts, w.before args s = true) (hin : ∀ w ∈ u_ws RX3 TX3 3, w ∈ Ts) (hown : s.vm.findClass own = some m.cls) (hK : xK G s) (hG : WV G H a v0) (hS0 : va_S A H0 H locs) (ha : A a) (k : Nat) (hk : k < 3) (hlink : Cond.fieldLink own index ref (TX3 k).2.1 (TX3 k).2.2.1 ∈ Ts) (hr : (TX3 k).1 = ref) (hfin : (TX3 k).2.2.2 = false) {ty : FieldType} {v : Int32} (hd : parseFieldDescriptor (TX3 k).2.2.1 = some ty) (hn : narrow ty (.int v) = .int v) (hfit : fits ty (.int v) = true)
    (hdg : decode cc pc = .ok (.putfield index, 3)) (kk : ∀ (H1 : Heap) (locs1 : List Loc), WV G H1 a (upd v0 k v) → H1.size = H.size → (∀ q : Nat, q ≠ a → H1[q]? = H[q]?) → va_S A H0 H1 locs1 → W p l e R s m args below meth c H1 locs1 cells slots Q (F0 m (pc + 3) ls rest)) : W p l e R s m args below meth c H locs cells slots Q (F0 m pc ls (.int v :: .ref a :: rest)) := by
  refine z_put hx hb hts hin tyX3 tyX3_ok nmX3 hown hK hG rfl hS0 ha k hk hlink hr hfin hd hn hfit (by show k < 3; omega) hdg (fun H1 locs1 h1 hz hq hS => kk H1 locs1 ?_ hz hq hS)
  have e9 : ([.int (v0 0), .int (v0 1), .int (v0 2)] : List Value).set k (.int v) = [.int (upd v0 k v 0), .int (upd v0 k v 1), .int (upd v0 k v 2)] := by
    have h : k = 0 ∨ k = 1 ∨ k = 2 := by omega
    rcases h with h | h | h <;> subst h <;> rfl
  rw [e9] at h1
  exact h1
theorem z_putT (hx : p.tables.exec = Jvm.exec) (hb : c.code = cc) {own : String} {index : Nat} {Ts : List Cond} (hts : ∀ w ∈ Ts, w.before args s = true) (hin : ∀ w ∈ u_ws RX1 TX1 2, w ∈ Ts) (hown : s.vm.findClass own = some m.cls) (hK : xK G s) (hG : TX G H a t) (hS0 : va_S A H0 H locs) (ha : A a) (hlink : Cond.fieldLink own index "SiltedFloats$OrderText" "length" "I" ∈ Ts) {v : Int32}
    (hdg : decode cc pc = .ok (.putfield index, 3)) (kk : ∀ (H1 : Heap) (locs1 : List Loc), TX G H1 a (v, t.2) → H1.size = H.size → (∀ q : Nat, q ≠ a → H1[q]? = H[q]?) → va_S A H0 H1 locs1 → W p l e R s m args below meth c H1 locs1 cells slots Q (F0 m (pc + 3) ls rest)) : W p l e R s m args below meth c H locs cells slots Q (F0 m pc ls (.int v :: .ref a :: rest)) :=
  z_put (T := TX1) (k := 0) (ref := "SiltedFloats$OrderText") hx hb hts hin tyX1 tyX1_ok nmX1 hown hK hG.1 rfl hS0 ha (by decide) hlink rfl rfl (ty := .int) rfl rfl rfl (by show 0 < 2; omega) hdg (fun H1 locs1 h1 hz hq hS => kk H1 locs1 ⟨h1, hG.2.kept (hq _ (by omega))⟩ hz hq hS)
theorem z_castT (hx : p.tables.exec = Jvm.exec) (hb : c.code = cc) (hK : xK G s) (hG : TX G H a t) (hS0 : va_S A H0 H locs) (ha : A (a + 1)) {x z : Int32} {i : Int} (hX : x.toInt = i) (h : 0 ≤ i ∧ i < ((60 : Nat) : Int)) (hz9 : vp_nar .char z = z) (hdg : decode cc pc = .ok (.castore, 1))
    (kk : ∀ (H1 : Heap) (locs1 : List Loc), TX G H1 a (t.1, upd t.2 i.toNat z) → H1.size = H.size → (∀ q : Nat, q ≠ a + 1 → H1[q]? = H[q]?) → va_S A H0 H1 locs1 → W p l e R s m args below meth c H1 locs1 cells slots Q (F0 m (pc + 1) ls rest)) : W p l e R s m args below meth c H locs cells slots Q (F0 m pc ls (.int z :: .int x :: .ref (a + 1) :: rest)) :=
  z_cast hx hb hK 1 hG.2 rfl hS0 ha hX h hz9 hdg (fun H1 locs1 h1 hz hq hS => kk H1 locs1 ⟨hG.1.kept (hq _ (by omega)), h1⟩ hz hq hS)
/-- System.arraycopy(a0, 0, a, 0, 120) of two rows of 120 ints -/
theorem z_copy (hx : p.tables.exec = Jvm.exec) (hb : c.code = cc) (hml : c.maxLocals = ls.size) {own : String} {index : Nat} (hown : s.vm.findClass own = some m.cls) (hlink : (Cond.methodLink own index arraycopyName).before args s = true) (hnat : (Cond.native arraycopyName).before args s = true) (hstat : (Cond.static arraycopyName).before args s = true) (hini : (Cond.initialized "java/lang/System").before args s = true)
    (hK : xK G s) {a0 : Nat} {f g : Nat → Int32} (hA0 : xat G H a0 (.inl (G.2.1, 120, .inl f))) (hA1 : xat G H a (.inl (G.2.1, 120, .inl g))) (hS : va_S A H0 H locs) (ha : A a) (hframes : 1 ≤ R.frames) (hlocals : (rest.map fun v => v.category).sum + (nativeFrameWords "java/lang/System" "arraycopy" 5 + 11) ≤ R.locals) (hdg : decode cc pc = .ok (.invokestatic index, 3))
    (kk : ∀ (H1 : Heap) (locs1 : List Loc), xat G H1 a (.inl (G.2.1, 120, .inl (va_cpy f g 0 0 120))) → H1.size = H.size → (∀ q : Nat, q ≠ a → H1[q]? = H[q]?) → va_S A H0 H1 locs1 → W p l e R s m args below meth c H1 locs1 cells slots Q (F0 m (pc + 3) ls rest)) : W p l e R s m args below meth c H locs cells slots Q (F0 m pc ls (.int 120 :: .int 0 :: .ref a :: .int 0 :: .ref a0 :: rest)) := by
  intro T hT X
  have hc0 : H[a0]? = some (vp_cell G.2.1 (120, .inl f)) := hA0
  have hc1 : H[a]? = some (vp_cell G.2.1 (120, .inl g)) := hA1
  have ht0 : (xtys G)[0]? = some (G.2.1, FieldType.int) := rfl
  obtain ⟨-, k0, hk0, cm0, hkk0⟩ := (hK.1.2 0 _ ht0).1 120 (fun j => .int (f j))
  obtain ⟨-, k1, hk1, cm1, hkk1⟩ := (hK.1.2 0 _ ht0).1 120 (fun j => .int (g j))
  obtain ⟨vm', X', step⟩ := X.arraycopy hx hown hlink hnat hstat hini (src := a0) (dst := a) (cs := vp_cell G.2.1 (120, .inl f)) (cd := vp_cell G.2.1 (120, .inl g)) (srcPos := 0) (destPos := 0) (n := 120) (by rw [hT]; exact hc0) (by rw [hT]; exact hc1)
    (fun _ h => by cases h) (fun _ h => by cases h) (fun h => by cases h) (fun h => by cases h) hk0 hk1 hkk0 hkk1 (by simp [refKind]) (by decide) (by decide) (by decide)
    (by show ¬ _ > ((arrV G.2.1 120 (fun j => .int (f j))).slots.size : Int); rw [arrV_size]; decide)
    (by show ¬ _ > ((arrV G.2.1 120 (fun j => .int (g j))).slots.size : Int); rw [arrV_size]; decide)
    (fun vm₁ _ i hi => by
      have hi9 : i < 120 := hi
      have e : (vp_cell G.2.1 (120, .inl f)).slots.getD ((0 : Int32).toNatClampNeg + i) .null = .int (f (0 + i)) := by
        show (arrV G.2.1 120 (fun j => .int (f j))).slots.getD (0 + i) _ = _
        rw [Array.getD_eq_getD_getElem?, arrV_read _ _ (by omega)]
        rfl
      refine ⟨?_, ?_⟩
      · rw [e]
        rfl
      · rw [e]
        exact trivial)
    (g := F0 m pc ls (.int 120 :: .int 0 :: .ref a :: .int 0 :: .ref a0 :: rest)) rfl (by rw [hml]) (rest := rest) rfl (by rw [hb]; exact hdg) hframes (by show 2 * 0 + _ + _ ≤ _; omega)
  have e1 : copied (vp_cell G.2.1 (120, .inl f)) (vp_cell G.2.1 (120, .inl g)) 0 0 120 = vp_cell G.2.1 (120, .inl (va_cpy f g 0 0 120)) := va_copied (fun z => .int z) G.2.1 G.2.1 f g (sp := 0) (dp := 0) (n := 120) (by show 0 + 120 ≤ 120; omega)
  rw [e1] at X' step
  have hl : a < H.size := (Array.getElem?_eq_some_iff.mp hc1).1
  have hheap : ((T.setVm vm').setCell a (vp_cell G.2.1 (120, .inl (va_cpy f g 0 0 120)))).heap = H.setIfInBounds a (vp_cell G.2.1 (120, .inl (va_cpy f g 0 0 120))) := by rw [← hT]; rfl
  have oq : ∀ q : Nat, q ≠ a → (H.setIfInBounds a (vp_cell G.2.1 (120, .inl (va_cpy f g 0 0 120))))[q]? = H[q]? := fun q hq => by simp [Array.getElem?_setIfInBounds, Ne.symm hq]
  obtain ⟨t, a1, b1⟩ := kk _ _ (show (H.setIfInBounds a _)[a]? = some _ by simp [Array.getElem?_setIfInBounds, hl]) (by simp) oq ⟨by simp; exact hS.1, fun q g1 g2 => by
      rw [oq q (fun e => g2 (by rw [e]; exact ha))]
      exact hS.2.1 q g1 g2, fun q hq => by
      rcases List.mem_append.mp hq with h | h
      · exact hS.2.2 q h
      · obtain ⟨z, -, hz⟩ := List.mem_map.mp h
        rw [← hz]
        exact ha⟩ _ hheap X'
  exact ⟨t, step t a1, b1⟩
theorem z_copyK (hx : p.tables.exec = Jvm.exec) (hb : c.code = cc) (hml : c.maxLocals = ls.size) {own : String} {index : Nat} (hown : s.vm.findClass own = some m.cls) (hlink : (Cond.methodLink own index arraycopyName).before args s = true) (hnat : (Cond.native arraycopyName).before args s = true) (hstat : (Cond.static arraycopyName).before args s = true) (hini : (Cond.initialized "java/lang/System").before args s = true)
    (hK : xK G s) {g0 : Nat} {d0 d1 : GD} (hG0 : GA G H g0 d0) (hG : GA G H g d1) (hS : va_S A H0 H locs) (ha : A (g + 1)) (hframes : 1 ≤ R.frames) (hlocals : (rest.map fun v => v.category).sum + (nativeFrameWords "java/lang/System" "arraycopy" 5 + 11) ≤ R.locals) (hdg : decode cc pc = .ok (.invokestatic index, 3))
    (kk : ∀ (H1 : Heap) (locs1 : List Loc), GA G H1 g (d1.1, va_cpy d0.2.1 d1.2.1 0 0 120, d1.2.2) → H1.size = H.size → (∀ q : Nat, q ≠ g + 1 → H1[q]? = H[q]?) → va_S A H0 H1 locs1 → W p l e R s m args below meth c H1 locs1 cells slots Q (F0 m (pc + 3) ls rest)) : W p l e R s m args below meth c H locs cells slots Q (F0 m pc ls (.int 120 :: .int 0 :: .ref (g + 1) :: .int 0 :: .ref (g0 + 1) :: rest)) :=
  z_copy hx hb hml hown hlink hnat hstat hini hK hG0.2.1 hG.2.1 hS ha hframes hlocals hdg (fun H1 locs1 h1 hz hq hS => kk H1 locs1 ⟨hG.1.kept (hq _ (by omega)), h1, hG.2.2.1.kept (hq _ (by omega)), hG.2.2.2.kept (hq _ (by omega))⟩ hz hq hS)
theorem z_copyV (hx : p.tables.exec = Jvm.exec) (hb : c.code = cc) (hml : c.maxLocals = ls.size) {own : String} {index : Nat} (hown : s.vm.findClass own = some m.cls) (hlink : (Cond.methodLink own index arraycopyName).before args s = true) (hnat : (Cond.native arraycopyName).before args s = true) (hstat : (Cond.static arraycopyName).before args s = true) (hini : (Cond.initialized "java/lang/System").before args s = true)
    (hK : xK G s) {g0 : Nat} {d0 d1 : GD} (hG0 : GA G H g0 d0) (hG : GA G H g d1) (hS : va_S A H0 H locs) (ha : A (g + 2)) (hframes : 1 ≤ R.frames) (hlocals : (rest.map fun v => v.category).sum + (nativeFrameWords "java/lang/System" "arraycopy" 5 + 11) ≤ R.locals) (hdg : decode cc pc = .ok (.invokestatic index, 3))
    (kk : ∀ (H1 : Heap) (locs1 : List Loc), GA G H1 g (d1.1, d1.2.1, va_cpy d0.2.2.1 d1.2.2.1 0 0 120, d1.2.2.2) → H1.size = H.size → (∀ q : Nat, q ≠ g + 2 → H1[q]? = H[q]?) → va_S A H0 H1 locs1 → W p l e R s m args below meth c H1 locs1 cells slots Q (F0 m (pc + 3) ls rest)) : W p l e R s m args below meth c H locs cells slots Q (F0 m pc ls (.int 120 :: .int 0 :: .ref (g + 2) :: .int 0 :: .ref (g0 + 2) :: rest)) :=
  z_copy hx hb hml hown hlink hnat hstat hini hK hG0.2.2.1 hG.2.2.1 hS ha hframes hlocals hdg (fun H1 locs1 h1 hz hq hS => kk H1 locs1 ⟨hG.1.kept (hq _ (by omega)), hG.2.1.kept (hq _ (by omega)), h1, hG.2.2.2.kept (hq _ (by omega))⟩ hz hq hS)
theorem z_copyC (hx : p.tables.exec = Jvm.exec) (hb : c.code = cc) (hml : c.maxLocals = ls.size) {own : String} {index : Nat} (hown : s.vm.findClass own = some m.cls) (hlink : (Cond.methodLink own index arraycopyName).before args s = true) (hnat : (Cond.native arraycopyName).before args s = true) (hstat : (Cond.static arraycopyName).before args s = true) (hini : (Cond.initialized "java/lang/System").before args s = true)
    (hK : xK G s) {g0 : Nat} {d0 d1 : GD} (hG0 : GA G H g0 d0) (hG : GA G H g d1) (hS : va_S A H0 H locs) (ha : A (g + 3)) (hframes : 1 ≤ R.frames) (hlocals : (rest.map fun v => v.category).sum + (nativeFrameWords "java/lang/System" "arraycopy" 5 + 11) ≤ R.locals) (hdg : decode cc pc = .ok (.invokestatic index, 3))
    (kk : ∀ (H1 : Heap) (locs1 : List Loc), GA G H1 g (d1.1, d1.2.1, d1.2.2.1, va_cpy d0.2.2.2 d1.2.2.2 0 0 120) → H1.size = H.size → (∀ q : Nat, q ≠ g + 3 → H1[q]? = H[q]?) → va_S A H0 H1 locs1 → W p l e R s m args below meth c H1 locs1 cells slots Q (F0 m (pc + 3) ls rest)) : W p l e R s m args below meth c H locs cells slots Q (F0 m pc ls (.int 120 :: .int 0 :: .ref (g + 3) :: .int 0 :: .ref (g0 + 3) :: rest)) :=
  z_copy hx hb hml hown hlink hnat hstat hini hK hG0.2.2.2 hG.2.2.2 hS ha hframes hlocals hdg (fun H1 locs1 h1 hz hq hS => kk H1 locs1 ⟨hG.1.kept (hq _ (by omega)), hG.2.1.kept (hq _ (by omega)), hG.2.2.1.kept (hq _ (by omega)), h1⟩ hz hq hS)
end XW2
