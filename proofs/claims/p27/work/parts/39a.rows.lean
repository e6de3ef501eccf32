/-! rows for the law's own static methods; its numbers -/
theorem and_nn (x : Int32) : 0 ≤ (x &&& 2147483647).toInt := by
  obtain ⟨j, hj, e⟩ := pk_andE x (m := 2147483647) 31 (by decide)
  rw [e, nI_toInt hj]
  omega
theorem and1_b (x : Int32) : 0 ≤ (x &&& 1).toInt ∧ (x &&& 1).toInt ≤ 1 := by
  obtain ⟨j, hj, e⟩ := pk_andE x (m := 1) 1 (by decide)
  have hj2 : j < 2 := hj
  rw [e, nI_toInt (by omega)]
  omega
/-- the law's number below n -/
def lowZ (x : Int32) (n : Int) : Int := (x &&& 2147483647).toInt.tmod n
theorem lowZ_b {x : Int32} {n : Int} (h : 0 < n) : 0 ≤ lowZ x n ∧ lowZ x n < n :=
  ⟨Int.tmod_nonneg n (and_nn x), Int.tmod_lt_of_pos _ h⟩
theorem dv_n {a b : Int} (ha : a < 0) (hb : 0 < b) : -((b - 1 - a) / b) = a / b := by
  have e := Int.mul_ediv_add_emod a b
  have h1 := Int.emod_nonneg a (show b ≠ 0 by omega)
  have h2 := Int.emod_lt_of_pos a hb
  have e2 : (b - 1 - a) / b = -(a / b) := by
    rw [Int.ediv_eq_iff_of_pos hb]
    have e3 : b * -(a / b) = -(b * (a / b)) := Int.mul_neg _ _
    have e4 : -(a / b) * b = b * -(a / b) := Int.mul_comm _ _
    constructor <;> omega
  rw [e2, Int.neg_neg]
theorem zi_nar1 {v : Int32} (h : v.toInt = 1) : narrow .boolean (.int v) = .int v := zi_narB (P := True) (Or.inl ⟨h, trivial⟩)
section XE2
variable {p : Program} {l : Launch} {e : Env} {R : Room} {s : State} {m : MethodId} {args : Array Value} {below : List Frame} {meth : Method} {c : Code} {H : Heap} {locs : List Loc}
variable {cc : ByteArray} {pc : Nat} {ls : Array Slot} {post : Int32 → Prop} {B : Heap → Prop} {A : Nat → Prop}
theorem z_rbw (hx : p.tables.exec = Jvm.exec) (hb : c.code = cc) (hr : meth.sig.returnType = some .boolean) (hk : meth.locks = false) {v : Int32} (hn : narrow .boolean (.int v) = .int v) (hv : post v) (hB : B H) (hS : va_S A s.heap H locs) (hdg : decode cc pc = .ok (.ireturn, 1)) : W p l e R s m args below meth c H locs 0 0 (MQ below (zW post B A) args s 0 0 A) (F0 m pc ls [.int v]) :=
  W.zret (v := v) hx hb hr hn (fun t ht _ => ⟨⟨v, rfl, hv⟩, by rw [ht]; exact hB, hS.F ht⟩) hS.2.2 hdg hk
end XE2
section XC2
variable {p : Program} {l : Launch} {e : Env} {R : Room} {s : State} {m : MethodId} {args : Array Value} {below : List Frame} {meth : Method} {c : Code} {H : Heap} {locs : List Loc} {cells slots : Nat} {Q : State → Prop}
variable {cc bytes : ByteArray} {pc : Nat} {ls : Array Slot} {rest st : List Value} {G : xG} {A A1 : Nat → Prop} {H0 : Heap}
variable {Ts ws : List Cond} {nL maxL index n : Nat} {own : String} {y : MethodName} {ret : Option FieldType} {rm : Room} {P B : Heap → Prop} {post : Int32 → Prop} {As : List Value}
/-- a static method that writes in A1 and answers an int -/
theorem z_cSw (S : CallFix p m c cc nL s args Ts own) (hM : Met l y ws rm (va_Pc As (zPre G P)) (zW post B A1) 0 0 A1) (cw : CallB R s args own index y bytes maxL ret ws rm 0 0 n ∧ (Cond.static y).before args s = true) (hK : xK G s) (hP : P H)
    (hn : As.length = n) (hsize : ls.size = nL) (hst : st = As.reverse ++ rest) (hW : (rest.map fun v => v.category).sum ≤ 8) (hdg : decode cc pc = .ok (.invokestatic index, 3)) (hf : cells ≤ R.cells ∧ slots ≤ R.slots) (hS : va_S A H0 H locs) (hA1 : ∀ q, A1 q → A q)
    (kk : ∀ (v : Int32) (H1 : Heap) (locs1 : List Loc), post v → B H1 → H.size ≤ H1.size → (∀ q : Nat, q < H.size → ¬ A1 q → H1[q]? = H[q]?) → va_S A H0 H1 locs1 → W p l e R s m args below meth c H1 locs1 cells slots Q (F0 m (pc + 3) ls (.int v :: rest))) : W p l e R s m args below meth c H locs cells slots Q (F0 m pc ls st) := by
  have hr := W.runS (H := H) (locs := locs) (cells := cells) (slots := slots) (e := e) (below := below) (meth := meth) (g := F0 m pc ls st) S hM cw ⟨zPre.blind, fun U hU hW => ⟨rfl, xK.moved hW hK, by rw [hU]; exact hP⟩⟩ rfl hn hsize hst (lv_room hW) hdg hf
  intro T0 hT X
  obtain ⟨v, st₀, t, T', L, h0, X', hL, e1, ⟨⟨r, hv, hpo⟩, hB, hF⟩, stp⟩ := hr T0 hT X
  cases hv
  obtain ⟨t2, a1, b1⟩ := kk r t.heap _ hpo hB (by rw [← h0]; exact hF.1) (by rw [← h0]; exact hF.2) (z_after (T' := T') (hS0 := hS) hA1 h0 hL hF) T' e1 X'
  exact ⟨t2, stp t2 a1, b1⟩
end XC2
/-! the script -/
def zPreX (b L : Nat) (xs : Nat → Int32) : State → Prop := fun U => va_X b L xs U U.heap
theorem zPreX.blind {b L : Nat} {xs : Nat → Int32} {av : List Value} : FrameBlind (va_Pc av (zPreX b L xs)) := fun a U g mk q => ⟨q.1, va_X.moved (u := U) (U := U.calling g mk a) (Vm.Alike.refl U.vm) q.2⟩
section XL
variable {p : Program} {l : Launch} {e : Env} {R : Room} {s : State} {m : MethodId} {args : Array Value} {below : List Frame} {meth : Method} {c : Code} {H : Heap} {locs : List Loc} {cells slots : Nat} {Q : State → Prop}
variable {cc bytes : ByteArray} {pc : Nat} {ls : Array Slot} {rest st : List Value} {A : Nat → Prop} {b L : Nat} {H0 : Heap} {xs : Nat → Int32}
variable {Ts ws : List Cond} {nL maxL index n : Nat} {own : String} {y : MethodName} {ret : Option FieldType} {rm : Room} {post : Int32 → Prop} {As : List Value}
theorem z_sld (hx : p.tables.exec = Jvm.exec) (hb : c.code = cc) (hX : va_X b L xs s H0) (hbl : b < H0.size) (hbA : ¬ A b) (hS : va_S A H0 H locs) {x : Int32} {i : Int} (hi : x.toInt = i) (h : 0 ≤ i ∧ i < (L : Int)) (hdg : decode cc pc = .ok (.iaload, 1))
    (kk : W p l e R s m args below meth c H locs cells slots Q (F0 m (pc + 1) ls (.int (xs i.toNat) :: rest))) : W p l e R s m args below meth c H locs cells slots Q (F0 m pc ls (.int x :: .ref b :: rest)) := by
  refine va_sld hx hb hX hbl hbA hS (zi_in hi h) hdg ?_
  rw [zi_cl hi]
  exact kk
theorem z_slen (hx : p.tables.exec = Jvm.exec) (hb : c.code = cc) (hX : va_X b L xs s H0) (hbl : b < H0.size) (hbA : ¬ A b) (hS : va_S A H0 H locs) (hL : L ≤ 260) (hdg : decode cc pc = .ok (.arraylength, 1))
    (kk : ∀ z : Int32, z.toInt = (L : Int) → W p l e R s m args below meth c H locs cells slots Q (F0 m (pc + 1) ls (.int z :: rest))) : W p l e R s m args below meth c H locs cells slots Q (F0 m pc ls (.ref b :: rest)) :=
  va_slen hx hb hX hbl hbA hS hdg (kk _ (nI_toInt (by omega)))
/-- a static method that only reads the script -/
theorem z_cX (S : CallFix p m c cc nL s args Ts own) (hM : Met l y ws rm (va_Pc As (zPreX b L xs)) (zS post) 0 0 zno) (cw : CallB R s args own index y bytes maxL ret ws rm 0 0 n ∧ (Cond.static y).before args s = true) (hX : va_X b L xs s H)
    (hn : As.length = n) (hsize : ls.size = nL) (hst : st = As.reverse ++ rest) (hW : (rest.map fun v => v.category).sum ≤ 8) (hdg : decode cc pc = .ok (.invokestatic index, 3)) (hf : cells ≤ R.cells ∧ slots ≤ R.slots)
    (kk : ∀ v : Int32, post v → W p l e R s m args below meth c H locs cells slots Q (F0 m (pc + 3) ls (.int v :: rest))) : W p l e R s m args below meth c H locs cells slots Q (F0 m pc ls st) := by
  have hr := W.runS (H := H) (locs := locs) (cells := cells) (slots := slots) (e := e) (below := below) (meth := meth) (g := F0 m pc ls st) S hM cw ⟨zPreX.blind, fun U hU hW => ⟨rfl, by show va_X b L xs U U.heap; rw [hU]; exact va_X.moved hW.alike hX⟩⟩ rfl hn hsize hst (lv_room hW) hdg hf
  intro T0 hT X
  obtain ⟨v, st₀, t, T', L, h0, X', hL, e1, ⟨r, hv, hpo, hh⟩, stp⟩ := hr T0 hT X
  cases hv
  obtain ⟨t2, a1, b1⟩ := kk r hpo T' (by rw [e1, hh, h0]) (Stand.forget X' (fun q h => (hL q h).elim))
  exact ⟨t2, stp t2 a1, b1⟩
end XL
theorem z_ofX {l : Launch} {y : MethodName} {ws ws' : List Cond} {b L : Nat} {xs : Nat → Int32} {av : List Value} {Qc : Array Value → State → Outcome → State → Prop} {free : Addr → Prop} {cc : ByteArray} {maxL : Nat} {ret : Option FieldType} {rm : Room}
    (hy : plainName y.cls = true) (hw : ws = Cond.code y cc maxL ret :: ws') (hlen : (lg_sl av).length ≤ maxL)
    (body : ∀ p e s m below meth c, p.tables.exec = Jvm.exec → c.code = cc → c.maxLocals = maxL → meth.sig.returnType = ret → meth.locks = false → va_X b L xs s s.heap → ∀ ls, lv_has ls maxL (lv_args 0 av) →
      W p l e rm s m av.toArray below meth c s.heap [] 0 0 (MQ below Qc av.toArray s 0 0 free) (F0 m 0 ls [])) : Met l y ws rm (va_Pc av (zPreX b L xs)) Qc 0 0 free := by
  refine Met.ofW (cc := cc) (maxL := maxL) (ret := ret) hy hw ?_
  intro p e s m args below meth c s₁ B hml hv
  obtain ⟨rfl, hX⟩ := hv
  have hl := lv_entry av (n := maxL) hlen
  rw [lg_entry_eq]
  exact body p e s m below meth c B.exec B.bytes hml B.returns B.notSynchronized hX _ hl
abbrev rmL_cell : Room := { frames := 0, cells := 0, slots := 0, locals := 0 }
theorem hyL_cell : yL_cell.cls ≠ "java/lang/invoke/MethodHandle" ∧ yL_cell.cls ≠ "java/lang/invoke/VarHandle" ∧ (parseMethodDescriptor yL_cell.desc).map (fun d => d.parameters.length) = some 2 := by decide +kernel
theorem kI_7919 : (7919 : Int32).toInt = 7919 := by decide
set_option maxHeartbeats 2000000 in
/-- an int of the script, or one made up -/
theorem kL_cell (l : Launch) (b L : Nat) (xs : Nat → Int32) (hL : L ≤ 260) (x : Int32) (k : Int) (e_x : x.toInt = k) (hk : 0 ≤ k) : Met l yL_cell wsL_cell rmL_cell (va_Pc [.ref b, .int x] (zPreX b L xs)) (zS (fun v => True)) 0 0 zno := by
  refine z_ofX (cc := cL_cell) (maxL := 2) (ret := some .int) (by decide +kernel) rfl (Nat.le_of_ble_eq_true rfl) ?_
  intro p e s m below meth c hx hb hml hr hlocks hX ls hl
  have hl : lv_has ls 2 [(0, .ref b), (1, .int x)] := hl
  have hS : va_S zno s.heap s.heap [] := va_S.rf
  have hbl : b < s.heap.size := by
    obtain ⟨scr, h1, -⟩ := id hX
    exact (Array.getElem?_eq_some_iff.mp h1).1
  refine lv_iload_n hx hb dL_cell_0 rfl (lv_at hl 1 rfl) ?_
  refine lv_aload_n hx hb dL_cell_1 rfl (lv_at hl 0 rfl) ?_
  refine z_slen hx hb hX hbl (fun q => q) hS hL dL_cell_2 (fun z1 e1 => ?_)
  refine z_icmp_ge (tgt := 12) hx hb e_x e1 dL_cell_3 (by decide) (fun c_1 => ?_) (fun c_1 => ?_)
  · refine lv_sipush (v := (7919 : Int32)) hx hb dL_cell_12 (by decide) ?_
    refine lv_iload_n hx hb dL_cell_15 rfl (lv_at hl 1 rfl) ?_
    refine lv_iconst (v := (3 : Int32)) hx hb dL_cell_16 (by decide) ?_
    refine lv_iadd hx hb dL_cell_17 ?_
    refine lv_imul hx hb dL_cell_18 ?_
    refine lv_iload_n hx hb dL_cell_19 rfl (lv_at hl 1 rfl) ?_
    refine lv_bipush (v := (11 : Int32)) hx hb dL_cell_20 (by decide) ?_
    refine lv_iadd hx hb dL_cell_22 ?_
    refine lv_imul hx hb dL_cell_23 ?_
    exact z_ri hx hb hr hlocks trivial dL_cell_24
  · refine lv_aload_n hx hb dL_cell_6 rfl (lv_at hl 0 rfl) ?_
    refine lv_iload_n hx hb dL_cell_7 rfl (lv_at hl 1 rfl) ?_
    refine z_sld hx hb hX hbl (fun q => q) hS e_x (by omega) dL_cell_8 ?_
    refine lv_goto (tgt := 24) hx hb dL_cell_9 (by decide) ?_
    exact z_ri hx hb hr hlocks trivial dL_cell_24
