abbrev rmJ9_floorDiv_7cf53 : Room := { frames := 0, cells := 0, slots := 0, locals := 0 }
theorem hyJ9_floorDiv_7cf53 : yJ9_floorDiv_7cf53.cls ≠ "java/lang/invoke/MethodHandle" ∧ yJ9_floorDiv_7cf53.cls ≠ "java/lang/invoke/VarHandle" ∧ (parseMethodDescriptor yJ9_floorDiv_7cf53.desc).map (fun d => d.parameters.length) = some 2 := by decide +kernel
set_option maxHeartbeats 4000000 in
set_option maxRecDepth 100000 in
theorem kJ9_floorDiv_7cf53 (l : Launch) (G : xG) (x : Int32) (i : Int) (e_x : x.toInt = i) (y : Int32) (j : Int) (e_y : y.toInt = j) (hj : 0 < j) : Met l yJ9_floorDiv_7cf53 wsJ9_floorDiv_7cf53 rmJ9_floorDiv_7cf53 (va_Pc [.int x, .int y] (zPre G (fun H => True))) (zS (fun v => v.toInt = i / j)) 0 0 zno := by
  refine z_ofWF (cc := cJ9_floorDiv_7cf53) (maxL := 3) (ret := some .int) (by decide +kernel) rfl (Nat.le_of_ble_eq_true rfl) ?_
  intro p e s m below meth c hx hb hml hr hts hown hlocks hK hP ls hl
  have hown : s.vm.findClass RJ9 = some m.cls := hown
  have hl : lv_has ls 3 [(0, .int x), (1, .int y)] := hl
  have hx1 := zi_lo x
  have hx2 := zi_hi x
  refine lv_iload_n hx hb dJ9_floorDiv_7cf53_0 rfl (lv_at hl 0 rfl) ?_
  refine lv_iload_n hx hb dJ9_floorDiv_7cf53_1 rfl (lv_at hl 1 rfl) ?_
  refine z_idiv hx hb e_x e_y dJ9_floorDiv_7cf53_2 (by omega) (fun z1 e1 => ?_)
  refine lv_istore_n hx hb dJ9_floorDiv_7cf53_3 rfl hl (by decide) rfl (fun ls hl => ?_)
  have hl : lv_has ls 3 [(2, .int z1), (0, .int x), (1, .int y)] := hl
  refine lv_iload_n hx hb dJ9_floorDiv_7cf53_4 rfl (lv_at hl 1 rfl) ?_
  refine lv_iload_n hx hb dJ9_floorDiv_7cf53_5 rfl (lv_at hl 2 rfl) ?_
  refine z_ixor hx hb e_x e_y dJ9_floorDiv_7cf53_6 (fun z2 e2 => ?_)
  refine z_if_ge (tgt := 21) hx hb rfl dJ9_floorDiv_7cf53_7 (by decide) (fun c_3 => ?_) (fun c_3 => ?_)
  · refine lv_iload_n hx hb dJ9_floorDiv_7cf53_21 rfl (lv_at hl 0 rfl) ?_
    exact z_ri (v := z1) hx hb hr hlocks (show z1.toInt = i / j from (by rw [e1, Int.tdiv_eq_ediv_of_nonneg (by omega)])) dJ9_floorDiv_7cf53_22
  · refine lv_iload_n hx hb dJ9_floorDiv_7cf53_10 rfl (lv_at hl 0 rfl) ?_
    refine lv_iload_n hx hb dJ9_floorDiv_7cf53_11 rfl (lv_at hl 2 rfl) ?_
    refine z_imul hx hb e1 e_y dJ9_floorDiv_7cf53_12 (fd_b (by omega) (by omega) hj (by omega)) (fun z4 e4 => ?_)
    refine lv_iload_n hx hb dJ9_floorDiv_7cf53_13 rfl (lv_at hl 1 rfl) ?_
    refine z_icmp_eq (tgt := 21) hx hb e4 e_x dJ9_floorDiv_7cf53_14 (by decide) (fun c_5 => ?_) (fun c_5 => ?_)
    · refine lv_iload_n hx hb dJ9_floorDiv_7cf53_21 rfl (lv_at hl 0 rfl) ?_
      exact z_ri (v := z1) hx hb hr hlocks (show z1.toInt = i / j from (by rw [e1]; exact fd_exact hj (by assumption))) dJ9_floorDiv_7cf53_22
    · refine lv_iload_n hx hb dJ9_floorDiv_7cf53_17 rfl (lv_at hl 0 rfl) ?_
      refine lv_iconst (v := (1 : Int32)) hx hb dJ9_floorDiv_7cf53_18 (by decide) ?_
      refine z_isub hx hb e1 kI_1 dJ9_floorDiv_7cf53_19 (by have hq1 := fd_neg (i := i) (by omega) hj (by assumption); have hq2 := fd_ge (i := i) (by omega) hj; have hq3 := fd_lt (i := i) (by omega) hj; omega) (fun z6 e6 => ?_)
      exact z_ri (v := z6) hx hb hr hlocks (show z6.toInt = i / j from (by rw [e6]; exact fd_neg (by omega) hj (by assumption))) dJ9_floorDiv_7cf53_20

abbrev rmJ9_floorMod_7cf53 : Room := { frames := 0, cells := 0, slots := 0, locals := 0 }
theorem hyJ9_floorMod_7cf53 : yJ9_floorMod_7cf53.cls ≠ "java/lang/invoke/MethodHandle" ∧ yJ9_floorMod_7cf53.cls ≠ "java/lang/invoke/VarHandle" ∧ (parseMethodDescriptor yJ9_floorMod_7cf53.desc).map (fun d => d.parameters.length) = some 2 := by decide +kernel
set_option maxHeartbeats 4000000 in
set_option maxRecDepth 100000 in
theorem kJ9_floorMod_7cf53 (l : Launch) (G : xG) (x : Int32) (i : Int) (e_x : x.toInt = i) (y : Int32) (j : Int) (e_y : y.toInt = j) (hj : 0 < j) : Met l yJ9_floorMod_7cf53 wsJ9_floorMod_7cf53 rmJ9_floorMod_7cf53 (va_Pc [.int x, .int y] (zPre G (fun H => True))) (zS (fun v => v.toInt = i % j)) 0 0 zno := by
  refine z_ofWF (cc := cJ9_floorMod_7cf53) (maxL := 3) (ret := some .int) (by decide +kernel) rfl (Nat.le_of_ble_eq_true rfl) ?_
  intro p e s m below meth c hx hb hml hr hts hown hlocks hK hP ls hl
  have hown : s.vm.findClass RJ9 = some m.cls := hown
  have hl : lv_has ls 3 [(0, .int x), (1, .int y)] := hl
  have hy2 := zi_hi y
  refine lv_iload_n hx hb dJ9_floorMod_7cf53_0 rfl (lv_at hl 0 rfl) ?_
  refine lv_iload_n hx hb dJ9_floorMod_7cf53_1 rfl (lv_at hl 1 rfl) ?_
  refine z_irem hx hb e_x e_y dJ9_floorMod_7cf53_2 (by omega) (fun z1 e1 => ?_)
  refine lv_istore_n hx hb dJ9_floorMod_7cf53_3 rfl hl (by decide) rfl (fun ls hl => ?_)
  have hl : lv_has ls 3 [(2, .int z1), (0, .int x), (1, .int y)] := hl
  refine lv_iload_n hx hb dJ9_floorMod_7cf53_4 rfl (lv_at hl 1 rfl) ?_
  refine lv_iload_n hx hb dJ9_floorMod_7cf53_5 rfl (lv_at hl 2 rfl) ?_
  refine z_ixor hx hb e_x e_y dJ9_floorMod_7cf53_6 (fun z2 e2 => ?_)
  refine z_if_ge (tgt := 18) hx hb rfl dJ9_floorMod_7cf53_7 (by decide) (fun c_3 => ?_) (fun c_3 => ?_)
  · refine lv_iload_n hx hb dJ9_floorMod_7cf53_18 rfl (lv_at hl 0 rfl) ?_
    exact z_ri (v := z1) hx hb hr hlocks (show z1.toInt = i % j from (by rw [e1, Int.tmod_eq_emod_of_nonneg (by omega)])) dJ9_floorMod_7cf53_19
  · refine lv_iload_n hx hb dJ9_floorMod_7cf53_10 rfl (lv_at hl 0 rfl) ?_
    refine z_if_eq (tgt := 18) hx hb e1 dJ9_floorMod_7cf53_11 (by decide) (fun c_4 => ?_) (fun c_4 => ?_)
    · refine lv_iload_n hx hb dJ9_floorMod_7cf53_18 rfl (lv_at hl 0 rfl) ?_
      exact z_ri (v := z1) hx hb hr hlocks (show z1.toInt = i % j from (by rw [e1]; exact fm_0 (by omega) hj (by assumption))) dJ9_floorMod_7cf53_19
    · refine lv_iload_n hx hb dJ9_floorMod_7cf53_14 rfl (lv_at hl 0 rfl) ?_
      refine lv_iload_n hx hb dJ9_floorMod_7cf53_15 rfl (lv_at hl 2 rfl) ?_
      refine z_iadd hx hb e1 e_y dJ9_floorMod_7cf53_16 (by have hq1 := fd_sgn (i := i) (by omega) hj; omega) (fun z5 e5 => ?_)
      exact z_ri (v := z5) hx hb hr hlocks (show z5.toInt = i % j from (by rw [e5]; exact fm_neg (by omega) hj (by assumption))) dJ9_floorMod_7cf53_17

abbrev rmX4_shareOf : Room := { frames := 1, cells := 0, slots := 0, locals := 22 }
theorem hyX4_shareOf : yX4_shareOf.cls ≠ "java/lang/invoke/MethodHandle" ∧ yX4_shareOf.cls ≠ "java/lang/invoke/VarHandle" ∧ (parseMethodDescriptor yX4_shareOf.desc).map (fun d => d.parameters.length) = some 3 := by decide +kernel
set_option maxHeartbeats 4000000 in
set_option maxRecDepth 100000 in
theorem kX4_shareOf (l : Launch) (G : xG) (x : Int32) (w : Int) (e_x : x.toInt = w) (y : Int32) (h : Int) (e_y : y.toInt = h) (z : Int32) (a : Int) (e_z : z.toInt = a) (hwh : -2147483648 ≤ w * h ∧ w * h ≤ 2147483647) : Met l yX4_shareOf wsX4_shareOf rmX4_shareOf (va_Pc [.int x, .int y, .int z] (zPre G (fun H => True))) (zS (fun v => v.toInt = shZ w h a)) 0 0 zno := by
  refine z_ofW (cc := cX4_shareOf) (maxL := 3) (ret := some .int) (by decide +kernel) rfl (Nat.le_of_ble_eq_true rfl) ?_
  intro p e s m below meth c hx hb hml hr hts hown hlocks hK hP ls hl
  have hown : s.vm.findClass RX4 = some m.cls := hown
  have hl : lv_has ls 3 [(0, .int x), (1, .int y), (2, .int z)] := hl
  refine lv_iload_n hx hb dX4_shareOf_0 rfl (lv_at hl 2 rfl) ?_
  refine z_if_gt (tgt := 8) hx hb e_z dX4_shareOf_1 (by decide) (fun c_1 => ?_) (fun c_1 => ?_)
  · refine lv_iload_n hx hb dX4_shareOf_8 rfl (lv_at hl 0 rfl) ?_
    refine lv_iload_n hx hb dX4_shareOf_9 rfl (lv_at hl 1 rfl) ?_
    refine z_imul hx hb e_x e_y dX4_shareOf_10 hwh (fun z2 e2 => ?_)
    refine lv_iload_n hx hb dX4_shareOf_11 rfl (lv_at hl 2 rfl) ?_
    refine z_cS (As := [.int z2, .int z]) (rest := []) ⟨hx, hb, hml, hown, hts⟩ (kJ9_floorDiv_7cf53 l G z2 (w * h) e2 z a e_z (by first | assumption | omega)) (va_cwS 2 hts gX4_shareOf_J9_floorDiv_7cf53 rfl rfl rfl hyJ9_floorDiv_7cf53 ⟨Nat.le_of_ble_eq_true rfl, Nat.le_of_ble_eq_true rfl⟩) hK trivial rfl hl.1 rfl (Nat.le_of_ble_eq_true rfl) dX4_shareOf_12 ⟨Nat.zero_le _, Nat.zero_le _⟩ (fun z3 e3 => ?_)
    have e3 : z3.toInt = (w * h) / a := e3
    exact z_ri (v := z3) hx hb hr hlocks (show z3.toInt = shZ w h a from (by rw [e3, shZ, if_neg (by omega)])) dX4_shareOf_15
  · refine lv_iconst (v := (0 : Int32)) hx hb dX4_shareOf_4 (by decide) ?_
    refine lv_goto (tgt := 15) hx hb dX4_shareOf_5 (by decide) ?_
    exact z_ri (v := (0 : Int32)) hx hb hr hlocks (show (0 : Int32).toInt = shZ w h a from (by rw [shZ, if_pos (by omega)]; rfl)) dX4_shareOf_15

abbrev rmX4_phaseOfStep : Room := { frames := 0, cells := 0, slots := 0, locals := 0 }
theorem hyX4_phaseOfStep : yX4_phaseOfStep.cls ≠ "java/lang/invoke/MethodHandle" ∧ yX4_phaseOfStep.cls ≠ "java/lang/invoke/VarHandle" ∧ (parseMethodDescriptor yX4_phaseOfStep.desc).map (fun d => d.parameters.length) = some 1 := by decide +kernel
set_option maxHeartbeats 4000000 in
set_option maxRecDepth 100000 in
theorem kX4_phaseOfStep (l : Launch) (G : xG) (x : Int32) (k : Int) (e_x : x.toInt = k) (hk : 0 ≤ k ∧ k ≤ 1000) : Met l yX4_phaseOfStep wsX4_phaseOfStep rmX4_phaseOfStep (va_Pc [.int x] (zPre G (fun H => True))) (zS (fun v => v.toInt = phZ k)) 0 0 zno := by
  refine z_ofW (cc := cX4_phaseOfStep) (maxL := 1) (ret := some .int) (by decide +kernel) rfl (Nat.le_of_ble_eq_true rfl) ?_
  intro p e s m below meth c hx hb hml hr hts hown hlocks hK hP ls hl
  have hown : s.vm.findClass RX4 = some m.cls := hown
  have hl : lv_has ls 1 [(0, .int x)] := hl
  refine lv_iload_n hx hb dX4_phaseOfStep_0 rfl (lv_at hl 0 rfl) ?_
  refine lv_iconst (v := (2 : Int32)) hx hb dX4_phaseOfStep_1 (by decide) ?_
  refine z_iremp hx hb e_x kI_2 dX4_phaseOfStep_2 (by omega) (fun z1 e1 => ?_)
  refine z_if_ne (tgt := 12) hx hb e1 dX4_phaseOfStep_3 (by decide) (fun c_2 => ?_) (fun c_2 => ?_)
  · refine lv_iload_n hx hb dX4_phaseOfStep_12 rfl (lv_at hl 0 rfl) ?_
    refine lv_iconst (v := (1 : Int32)) hx hb dX4_phaseOfStep_13 (by decide) ?_
    refine z_iadd hx hb e_x kI_1 dX4_phaseOfStep_14 (by omega) (fun z3 e3 => ?_)
    refine z_ineg hx hb e3 dX4_phaseOfStep_15 (by omega) (fun z4 e4 => ?_)
    refine lv_iconst (v := (2 : Int32)) hx hb dX4_phaseOfStep_16 (by decide) ?_
    refine z_idiv hx hb e4 kI_2 dX4_phaseOfStep_17 (by omega) (fun z5 e5 => ?_)
    exact z_ri (v := z5) hx hb hr hlocks (show z5.toInt = phZ k from (by rw [e5, phZ, if_neg (by assumption), Int.neg_tdiv, Int.tdiv_eq_ediv_of_nonneg (by omega)])) dX4_phaseOfStep_18
  · refine lv_iload_n hx hb dX4_phaseOfStep_6 rfl (lv_at hl 0 rfl) ?_
    refine lv_iconst (v := (2 : Int32)) hx hb dX4_phaseOfStep_7 (by decide) ?_
    refine z_idivp hx hb e_x kI_2 dX4_phaseOfStep_8 (by omega) (fun z6 e6 => ?_)
    refine lv_goto (tgt := 18) hx hb dX4_phaseOfStep_9 (by decide) ?_
    exact z_ri (v := z6) hx hb hr hlocks (show z6.toInt = phZ k from (by rw [e6, phZ, if_pos (by assumption)])) dX4_phaseOfStep_18

abbrev rmX0_isDue : Room := { frames := 0, cells := 0, slots := 0, locals := 0 }
theorem hyX0_isDue : yX0_isDue.cls ≠ "java/lang/invoke/MethodHandle" ∧ yX0_isDue.cls ≠ "java/lang/invoke/VarHandle" ∧ (parseMethodDescriptor yX0_isDue.desc).map (fun d => d.parameters.length) = some 2 := by decide +kernel
set_option maxHeartbeats 4000000 in
set_option maxRecDepth 100000 in
theorem kX0_isDue (l : Launch) (G : xG) (x : Int32) (ev : Int) (e_x : x.toInt = ev) (y : Int32) (h : Int) (e_y : y.toInt = h) (hh : 0 ≤ h ∧ h ≤ 1000000) : Met l yX0_isDue wsX0_isDue rmX0_isDue (va_Pc [.int x, .int y] (zPre G (fun H => True))) (zS (fun v => isB v (0 < ev ∧ (h + 1) % ev = 0))) 0 0 zno := by
  refine z_ofW (cc := cX0_isDue) (maxL := 2) (ret := some .boolean) (by decide +kernel) rfl (Nat.le_of_ble_eq_true rfl) ?_
  intro p e s m below meth c hx hb hml hr hts hown hlocks hK hP ls hl
  have hown : s.vm.findClass RX0 = some m.cls := hown
  have hl : lv_has ls 2 [(0, .int x), (1, .int y)] := hl
  refine lv_iload_n hx hb dX0_isDue_0 rfl (lv_at hl 0 rfl) ?_
  refine z_if_le (tgt := 16) hx hb e_x dX0_isDue_1 (by decide) (fun c_1 => ?_) (fun c_1 => ?_)
  · refine lv_iconst (v := (0 : Int32)) hx hb dX0_isDue_16 (by decide) ?_
    exact z_rb (v := (0 : Int32)) hx hb hr hlocks rfl (isB.f rfl (by omega)) dX0_isDue_17
  · refine lv_iload_n hx hb dX0_isDue_4 rfl (lv_at hl 1 rfl) ?_
    refine lv_iconst (v := (1 : Int32)) hx hb dX0_isDue_5 (by decide) ?_
    refine z_iadd hx hb e_y kI_1 dX0_isDue_6 (by omega) (fun z2 e2 => ?_)
    refine lv_iload_n hx hb dX0_isDue_7 rfl (lv_at hl 0 rfl) ?_
    refine z_iremp hx hb e2 e_x dX0_isDue_8 (by omega) (fun z3 e3 => ?_)
    refine z_if_ne (tgt := 16) hx hb e3 dX0_isDue_9 (by decide) (fun c_4 => ?_) (fun c_4 => ?_)
    · refine lv_iconst (v := (0 : Int32)) hx hb dX0_isDue_16 (by decide) ?_
      exact z_rb (v := (0 : Int32)) hx hb hr hlocks rfl (isB.f rfl (by omega)) dX0_isDue_17
    · refine lv_iconst (v := (1 : Int32)) hx hb dX0_isDue_12 (by decide) ?_
      refine lv_goto (tgt := 17) hx hb dX0_isDue_13 (by decide) ?_
      exact z_rb (v := (1 : Int32)) hx hb hr hlocks rfl (isB.t rfl ⟨by assumption, by assumption⟩) dX0_isDue_17

abbrev rmX0_mendedWithin : Room := { frames := 1, cells := 0, slots := 0, locals := 21 }
theorem hyX0_mendedWithin : yX0_mendedWithin.cls = RX0 ∧ yX0_mendedWithin.cls ≠ "java/lang/invoke/MethodHandle" ∧ yX0_mendedWithin.cls ≠ "java/lang/invoke/VarHandle" ∧ (parseMethodDescriptor yX0_mendedWithin.desc).map (fun d => d.parameters.length) = some 2 := by decide +kernel
set_option maxHeartbeats 4000000 in
set_option maxRecDepth 100000 in
theorem kX0_mendedWithin (l : Launch) (G : xG) (g : Nat) (d : GD) (x : Int32) (a : Int) (e_x : x.toInt = a) (y : Int32) (b : Int) (e_y : y.toInt = b) (ha : -1000000 ≤ a ∧ b ≤ 1000000) : Met l yX0_mendedWithin wsX0_mendedWithin rmX0_mendedWithin (va_Pc [.ref g, .int x, .int y] (zPre G (fun H => GA G H g d))) (zS (fun v => v.toInt = sumZ (fun i => if kindZ d i = 2 then 1 else 0) a (b + 1 - a).toNat)) 0 0 zno := by
  refine z_ofW (cc := cX0_mendedWithin) (maxL := 5) (ret := some .int) (by decide +kernel) rfl (Nat.le_of_ble_eq_true rfl) ?_
  intro p e s m below meth c hx hb hml hr hts hown hlocks hK hP ls hl
  have hG := hP
  have hown : s.vm.findClass RX0 = some m.cls := hown
  have hl : lv_has ls 5 [(0, .ref g), (1, .int x), (2, .int y)] := hl
  have cut5 : ∀ (n5 : Nat), ∀ (x3 : Int32) (i3 : Int) (_ : x3.toInt = i3) (x4 : Int32) (i4 : Int) (_ : x4.toInt = i4), (b + 1 - i4).toNat < n5 → (a ≤ i4 ∧ (i4 ≤ b + 1 ∨ i4 = a)) → (i3 = sumZ (fun i => if kindZ d i = 2 then 1 else 0) a (i4 - a).toNat) → (0 ≤ i3 ∧ i3 ≤ i4 - a) → ∀ ls : Array Slot, lv_has ls 5 [(0, .ref g), (1, .int x), (2, .int y), (3, .int x3), (4, .int x4)] → W p l e rmX0_mendedWithin s m ([.ref g, .int x, .int y] : List Value).toArray below meth c s.heap [] 0 0 (MQ below (zS (fun v => v.toInt = sumZ (fun i => if kindZ d i = 2 then 1 else 0) a (b + 1 - a).toNat)) ([.ref g, .int x, .int y] : List Value).toArray s 0 0 zno) (F0 m 5 ls []) := by
    intro n5
    induction n5 with
    | zero =>
      intro x3 i3 hx3 x4 i4 hx4 hmu5 hi5_0 hi5_1 hi5_2 ls hl
      exact absurd hmu5 (Nat.not_lt_zero _)
    | succ n5 ih5 =>
      intro x3 i3 hx3 x4 i4 hx4 hmu5 hi5_0 hi5_1 hi5_2 ls hl
      refine lv_iload hx hb dX0_mendedWithin_5 (lv_at hl 4 rfl) ?_
      refine lv_iload_n hx hb dX0_mendedWithin_7 rfl (lv_at hl 2 rfl) ?_
      refine z_icmp_gt (tgt := 30) hx hb hx4 e_y dX0_mendedWithin_8 (by decide) (fun c_1 => ?_) (fun c_1 => ?_)
      · refine lv_iload_n hx hb dX0_mendedWithin_30 rfl (lv_at hl 3 rfl) ?_
        exact z_ri (v := x3) hx hb hr hlocks (show x3.toInt = sumZ (fun i => if kindZ d i = 2 then 1 else 0) a (b + 1 - a).toNat from (by rw [hx3, hi5_1]; congr 1; omega)) dX0_mendedWithin_31
      · refine lv_aload_n hx hb dX0_mendedWithin_11 rfl (lv_at hl 0 rfl) ?_
        refine lv_iload hx hb dX0_mendedWithin_12 (lv_at hl 4 rfl) ?_
        refine z_cV (As := [.int x4]) (rest := []) ⟨hx, hb, hml, hown, hts⟩ (kX0_kindAt l G g d x4 i4 hx4) (cwV 1 hts gX0_mendedWithin_X0_kindAt rfl rfl rfl hyX0_kindAt ⟨Nat.le_of_ble_eq_true rfl, Nat.le_of_ble_eq_true rfl⟩) hK hG hG.1 rfl rfl hl.1 rfl (Nat.le_of_ble_eq_true rfl) dX0_mendedWithin_14 ⟨Nat.zero_le _, Nat.zero_le _⟩ (fun z2 e2 => ?_)
        have e2 : z2.toInt = kindZ d i4 := e2
        refine lv_iconst (v := (2 : Int32)) hx hb dX0_mendedWithin_17 (by decide) ?_
        refine z_icmp_ne (tgt := 24) hx hb e2 kI_2 dX0_mendedWithin_18 (by decide) (fun c_3 => ?_) (fun c_3 => ?_)
        · refine z_iinc (k := 4) hx hb dX0_mendedWithin_24 hl rfl hx4 (show (Int32.ofInt 1).toInt = (1 : Int) from rfl) (by omega) (by decide) (fun z4 e4 ls hl => ?_)
          have hl : lv_has ls 5 [(4, .int z4), (0, .ref g), (1, .int x), (2, .int y), (3, .int x3)] := hl
          refine lv_goto (tgt := 5) hx hb dX0_mendedWithin_27 (by decide) ?_
          exact ih5 x3 i3 hx3 z4 (i4 + (1 : Int)) e4 (by omega) (by omega) (by rw [sumZ_s (by omega), if_neg (by assumption)]; omega) (by omega) ls (lv_sub hl [1, 2, 3, 4, 0] rfl)
        · refine z_iinc (k := 3) hx hb dX0_mendedWithin_21 hl rfl hx3 (show (Int32.ofInt 1).toInt = (1 : Int) from rfl) (by omega) (by decide) (fun z5 e5 ls hl => ?_)
          have hl : lv_has ls 5 [(3, .int z5), (0, .ref g), (1, .int x), (2, .int y), (4, .int x4)] := hl
          refine z_iinc (k := 4) hx hb dX0_mendedWithin_24 hl rfl hx4 (show (Int32.ofInt 1).toInt = (1 : Int) from rfl) (by omega) (by decide) (fun z6 e6 ls hl => ?_)
          have hl : lv_has ls 5 [(4, .int z6), (3, .int z5), (0, .ref g), (1, .int x), (2, .int y)] := hl
          refine lv_goto (tgt := 5) hx hb dX0_mendedWithin_27 (by decide) ?_
          exact ih5 z5 (i3 + (1 : Int)) e5 z6 (i4 + (1 : Int)) e6 (by omega) (by omega) (by rw [sumZ_s (by omega), if_pos (by assumption)]; omega) (by omega) ls (lv_sub hl [2, 3, 4, 1, 0] rfl)
  refine lv_iconst (v := (0 : Int32)) hx hb dX0_mendedWithin_0 (by decide) ?_
  refine lv_istore_n hx hb dX0_mendedWithin_1 rfl hl (by decide) rfl (fun ls hl => ?_)
  have hl : lv_has ls 5 [(3, .int (0 : Int32)), (0, .ref g), (1, .int x), (2, .int y)] := hl
  refine lv_iload_n hx hb dX0_mendedWithin_2 rfl (lv_at hl 2 rfl) ?_
  refine lv_istore hx hb dX0_mendedWithin_3 hl (by decide) rfl (fun ls hl => ?_)
  have hl : lv_has ls 5 [(4, .int x), (3, .int (0 : Int32)), (0, .ref g), (1, .int x), (2, .int y)] := hl
  exact cut5 (((b + 1 - a).toNat) + 1) (0 : Int32) (0 : Int) kI_0 x a e_x (Nat.lt_succ_self _) (by omega) (by rw [sumZ_0 (by omega)]) (by omega) ls (lv_sub hl [2, 3, 4, 1, 0] rfl)

abbrev rmX0_riseAt : Room := { frames := 2, cells := 0, slots := 0, locals := 42 }
theorem hyX0_riseAt : yX0_riseAt.cls = RX0 ∧ yX0_riseAt.cls ≠ "java/lang/invoke/MethodHandle" ∧ yX0_riseAt.cls ≠ "java/lang/invoke/VarHandle" ∧ (parseMethodDescriptor yX0_riseAt.desc).map (fun d => d.parameters.length) = some 1 := by decide +kernel
set_option maxHeartbeats 4000000 in
set_option maxRecDepth 100000 in
theorem kX0_riseAt (l : Launch) (G : xG) (g : Nat) (d : GD) (x : Int32) (h : Int) (e_x : x.toInt = h) (hsm : smallG d) (hh : -1000000 ≤ h ∧ h ≤ 1000000) : Met l yX0_riseAt wsX0_riseAt rmX0_riseAt (va_Pc [.ref g, .int x] (zPre G (fun H => GA G H g d))) (zS (fun v => v.toInt = riseZ d h)) 0 0 zno := by
  refine z_ofW (cc := cX0_riseAt) (maxL := 2) (ret := some .int) (by decide +kernel) rfl (Nat.le_of_ble_eq_true rfl) ?_
  intro p e s m below meth c hx hb hml hr hts hown hlocks hK hP ls hl
  have hG := hP
  have hown : s.vm.findClass RX0 = some m.cls := hown
  have hl : lv_has ls 2 [(0, .ref g), (1, .int x)] := hl
  have hq1 := hsm.cord h
  have hq2 := hsm.cord (h - 1)
  refine lv_aload_n hx hb dX0_riseAt_0 rfl (lv_at hl 0 rfl) ?_
  refine lv_iload_n hx hb dX0_riseAt_1 rfl (lv_at hl 1 rfl) ?_
  refine z_cV (As := [.int x]) (rest := []) ⟨hx, hb, hml, hown, hts⟩ (kX0_correctedAt l G g d x h e_x (by first | assumption | omega)) (cwV 1 hts gX0_riseAt_X0_correctedAt rfl rfl rfl hyX0_correctedAt ⟨Nat.le_of_ble_eq_true rfl, Nat.le_of_ble_eq_true rfl⟩) hK hG hG.1 rfl rfl hl.1 rfl (Nat.le_of_ble_eq_true rfl) dX0_riseAt_2 ⟨Nat.zero_le _, Nat.zero_le _⟩ (fun z1 e1 => ?_)
  have e1 : z1.toInt = cordZ d h := e1
  refine lv_aload_n hx hb dX0_riseAt_5 rfl (lv_at hl 0 rfl) ?_
  refine lv_iload_n hx hb dX0_riseAt_6 rfl (lv_at hl 1 rfl) ?_
  refine lv_iconst (v := (1 : Int32)) hx hb dX0_riseAt_7 (by decide) ?_
  refine z_isub hx hb e_x kI_1 dX0_riseAt_8 (by omega) (fun z2 e2 => ?_)
  refine z_cV (As := [.int z2]) (rest := [.int z1]) ⟨hx, hb, hml, hown, hts⟩ (kX0_correctedAt l G g d z2 (h - (1 : Int)) e2 (by first | assumption | omega)) (cwV 1 hts gX0_riseAt_X0_correctedAt rfl rfl rfl hyX0_correctedAt ⟨Nat.le_of_ble_eq_true rfl, Nat.le_of_ble_eq_true rfl⟩) hK hG hG.1 rfl rfl hl.1 rfl (Nat.le_of_ble_eq_true rfl) dX0_riseAt_9 ⟨Nat.zero_le _, Nat.zero_le _⟩ (fun z3 e3 => ?_)
  have e3 : z3.toInt = cordZ d (h - (1 : Int)) := e3
  refine z_isub hx hb e1 e3 dX0_riseAt_12 (by omega) (fun z4 e4 => ?_)
  exact z_ri (v := z4) hx hb hr hlocks (show z4.toInt = riseZ d h from (by unfold riseZ; omega)) dX0_riseAt_13

abbrev rmX0_misfitWithin : Room := { frames := 3, cells := 0, slots := 0, locals := 65 }
theorem mlX0_misfitWithin_140 : (Cond.methodLink RX0 140 Lib.Math.abs.name ∈ wsX0_misfitWithin) ∧ (Cond.static Lib.Math.abs.name ∈ wsX0_misfitWithin) ∧ (Cond.initialized "java/lang/Math" ∈ wsX0_misfitWithin) ∧ (Cond.code Lib.Math.abs.name Lib.Math.abs.code 1 (some .int) ∈ wsX0_misfitWithin) := by decide +kernel
theorem hyX0_misfitWithin : yX0_misfitWithin.cls = RX0 ∧ yX0_misfitWithin.cls ≠ "java/lang/invoke/MethodHandle" ∧ yX0_misfitWithin.cls ≠ "java/lang/invoke/VarHandle" ∧ (parseMethodDescriptor yX0_misfitWithin.desc).map (fun d => d.parameters.length) = some 4 := by decide +kernel
set_option maxHeartbeats 4000000 in
set_option maxRecDepth 100000 in
theorem kX0_misfitWithin (l : Launch) (G : xG) (g : Nat) (d : GD) (o : Nat) (u : GD) (x : Int32) (a : Int) (e_x : x.toInt = a) (y : Int32) (b : Int) (e_y : y.toInt = b) (z : Int32) (f : Int) (e_z : z.toInt = f) (hsm : smallG d) (hso : smallG u) (ha : -1000 ≤ a ∧ b ≤ 1000 ∧ b ≤ a + 20 ∧ -1000 ≤ f ∧ f ≤ 1000) : Met l yX0_misfitWithin wsX0_misfitWithin rmX0_misfitWithin (va_Pc [.ref g, .int x, .int y, .ref o, .int z] (zPre G (fun H => GA G H g d ∧ GA G H o u))) (zS (fun v => v.toInt = sumZ (mfT d u f) a (b + 1 - a).toNat)) 0 0 zno := by
  refine z_ofW (cc := cX0_misfitWithin) (maxL := 7) (ret := some .int) (by decide +kernel) rfl (Nat.le_of_ble_eq_true rfl) ?_
  intro p e s m below meth c hx hb hml hr hts hown hlocks hK hP ls hl
  obtain ⟨hG, hO⟩ := hP
  have hown : s.vm.findClass RX0 = some m.cls := hown
  have hl : lv_has ls 7 [(0, .ref g), (1, .int x), (2, .int y), (3, .ref o), (4, .int z)] := hl
  have cut6 : ∀ (n6 : Nat), ∀ (x5 : Int32) (i5 : Int) (_ : x5.toInt = i5) (x6 : Int32) (i6 : Int) (_ : x6.toInt = i6), (b + 1 - i6).toNat < n6 → (a ≤ i6 ∧ (i6 ≤ b + 1 ∨ i6 = a)) → (i5 = sumZ (mfT d u f) a (i6 - a).toNat) → (0 ≤ i5 ∧ i5 ≤ 4004000 * (i6 - a)) → ∀ ls : Array Slot, lv_has ls 7 [(0, .ref g), (1, .int x), (2, .int y), (3, .ref o), (4, .int z), (5, .int x5), (6, .int x6)] → W p l e rmX0_misfitWithin s m ([.ref g, .int x, .int y, .ref o, .int z] : List Value).toArray below meth c s.heap [] 0 0 (MQ below (zS (fun v => v.toInt = sumZ (mfT d u f) a (b + 1 - a).toNat)) ([.ref g, .int x, .int y, .ref o, .int z] : List Value).toArray s 0 0 zno) (F0 m 6 ls []) := by
    intro n6
    induction n6 with
    | zero =>
      intro x5 i5 hx5 x6 i6 hx6 hmu6 hi6_0 hi6_1 hi6_2 ls hl
      exact absurd hmu6 (Nat.not_lt_zero _)
    | succ n6 ih6 =>
      intro x5 i5 hx5 x6 i6 hx6 hmu6 hi6_0 hi6_1 hi6_2 ls hl
      have hr1 := hsm.rise i6
      have hr2 := hso.rise (i6 + f)
      have hm := mfT_b hsm hso f i6
      refine lv_iload hx hb dX0_misfitWithin_6 (lv_at hl 6 rfl) ?_
      refine lv_iload_n hx hb dX0_misfitWithin_8 rfl (lv_at hl 2 rfl) ?_
      refine z_icmp_gt (tgt := 74) hx hb hx6 e_y dX0_misfitWithin_9 (by decide) (fun c_1 => ?_) (fun c_1 => ?_)
      · refine lv_iload hx hb dX0_misfitWithin_74 (lv_at hl 5 rfl) ?_
        exact z_ri (v := x5) hx hb hr hlocks (show x5.toInt = sumZ (mfT d u f) a (b + 1 - a).toNat from (by rw [hx5, hi6_1]; congr 1; omega)) dX0_misfitWithin_76
      · refine lv_aload_n hx hb dX0_misfitWithin_12 rfl (lv_at hl 0 rfl) ?_
        refine lv_iload hx hb dX0_misfitWithin_13 (lv_at hl 6 rfl) ?_
        refine lv_iconst (v := (1 : Int32)) hx hb dX0_misfitWithin_15 (by decide) ?_
        refine z_isub hx hb hx6 kI_1 dX0_misfitWithin_16 (by omega) (fun z2 e2 => ?_)
        refine lv_iload hx hb dX0_misfitWithin_17 (lv_at hl 6 rfl) ?_
        refine z_cV (As := [.int z2, .int x6]) (rest := []) ⟨hx, hb, hml, hown, hts⟩ (kX0_hasReadings l G g d z2 (i6 - (1 : Int)) e2 x6 i6 hx6 (by first | assumption | omega)) (cwV 2 hts gX0_misfitWithin_X0_hasReadings rfl rfl rfl hyX0_hasReadings ⟨Nat.le_of_ble_eq_true rfl, Nat.le_of_ble_eq_true rfl⟩) hK hG hG.1 rfl rfl hl.1 rfl (Nat.le_of_ble_eq_true rfl) dX0_misfitWithin_19 ⟨Nat.zero_le _, Nat.zero_le _⟩ (fun z3 e3 => ?_)
        have e3 : isB z3 (∀ j : Int, (i6 - (1 : Int)) ≤ j → j ≤ i6 → kindZ d j = 0) := e3
        refine z_ifb_eq (tgt := 68) hx hb e3 dX0_misfitWithin_22 (by decide) (fun c_4 => ?_) (fun c_4 => ?_)
        · have ht := mfT_f1 (o := u) (f := f) c_4
          refine z_iinc (k := 6) hx hb dX0_misfitWithin_68 hl rfl hx6 (show (Int32.ofInt 1).toInt = (1 : Int) from rfl) (by omega) (by decide) (fun z5 e5 ls hl => ?_)
          have hl : lv_has ls 7 [(6, .int z5), (0, .ref g), (1, .int x), (2, .int y), (3, .ref o), (4, .int z), (5, .int x5)] := hl
          refine lv_goto (tgt := 6) hx hb dX0_misfitWithin_71 (by decide) ?_
          exact ih6 x5 i5 hx5 z5 (i6 + (1 : Int)) e5 (by omega) (by omega) (by rw [sumZ_s (by omega), ht]; omega) (by omega) ls (lv_sub hl [1, 2, 3, 4, 5, 6, 0] rfl)
        · have hA := c_4
          refine lv_aload_n hx hb dX0_misfitWithin_25 rfl (lv_at hl 3 rfl) ?_
          refine lv_iload hx hb dX0_misfitWithin_26 (lv_at hl 6 rfl) ?_
          refine lv_iload hx hb dX0_misfitWithin_28 (lv_at hl 4 rfl) ?_
          refine z_iadd hx hb hx6 e_z dX0_misfitWithin_30 (by omega) (fun z6 e6 => ?_)
          refine lv_iconst (v := (1 : Int32)) hx hb dX0_misfitWithin_31 (by decide) ?_
          refine z_isub hx hb e6 kI_1 dX0_misfitWithin_32 (by omega) (fun z7 e7 => ?_)
          refine lv_iload hx hb dX0_misfitWithin_33 (lv_at hl 6 rfl) ?_
          refine lv_iload hx hb dX0_misfitWithin_35 (lv_at hl 4 rfl) ?_
          refine z_iadd hx hb hx6 e_z dX0_misfitWithin_37 (by omega) (fun z8 e8 => ?_)
          refine z_cV (As := [.int z7, .int z8]) (rest := []) ⟨hx, hb, hml, hown, hts⟩ (kX0_hasReadings l G o u z7 ((i6 + f) - (1 : Int)) e7 z8 (i6 + f) e8 (by first | assumption | omega)) (cwV 2 hts gX0_misfitWithin_X0_hasReadings rfl rfl rfl hyX0_hasReadings ⟨Nat.le_of_ble_eq_true rfl, Nat.le_of_ble_eq_true rfl⟩) hK hO hO.1 rfl rfl hl.1 rfl (Nat.le_of_ble_eq_true rfl) dX0_misfitWithin_38 ⟨Nat.zero_le _, Nat.zero_le _⟩ (fun z9 e9 => ?_)
          have e9 : isB z9 (∀ j : Int, ((i6 + f) - (1 : Int)) ≤ j → j ≤ (i6 + f) → kindZ u j = 0) := e9
          refine z_ifb_eq (tgt := 68) hx hb e9 dX0_misfitWithin_41 (by decide) (fun c_10 => ?_) (fun c_10 => ?_)
          · have ht := mfT_f2 (d := d) c_10
            refine z_iinc (k := 6) hx hb dX0_misfitWithin_68 hl rfl hx6 (show (Int32.ofInt 1).toInt = (1 : Int) from rfl) (by omega) (by decide) (fun z11 e11 ls hl => ?_)
            have hl : lv_has ls 7 [(6, .int z11), (0, .ref g), (1, .int x), (2, .int y), (3, .ref o), (4, .int z), (5, .int x5)] := hl
            refine lv_goto (tgt := 6) hx hb dX0_misfitWithin_71 (by decide) ?_
            exact ih6 x5 i5 hx5 z11 (i6 + (1 : Int)) e11 (by omega) (by omega) (by rw [sumZ_s (by omega), ht]; omega) (by omega) ls (lv_sub hl [1, 2, 3, 4, 5, 6, 0] rfl)
          · have ht := mfT_t hA c_10
            refine lv_iload hx hb dX0_misfitWithin_44 (lv_at hl 5 rfl) ?_
            refine lv_aload_n hx hb dX0_misfitWithin_46 rfl (lv_at hl 0 rfl) ?_
            refine lv_iload hx hb dX0_misfitWithin_47 (lv_at hl 6 rfl) ?_
            refine z_cV (As := [.int x6]) (rest := [.int x5]) ⟨hx, hb, hml, hown, hts⟩ (kX0_riseAt l G g d x6 i6 hx6 (by first | assumption | omega) (by first | assumption | omega)) (cwV 1 hts gX0_misfitWithin_X0_riseAt rfl rfl rfl hyX0_riseAt ⟨Nat.le_of_ble_eq_true rfl, Nat.le_of_ble_eq_true rfl⟩) hK hG hG.1 rfl rfl hl.1 rfl (Nat.le_of_ble_eq_true rfl) dX0_misfitWithin_49 ⟨Nat.zero_le _, Nat.zero_le _⟩ (fun z12 e12 => ?_)
            have e12 : z12.toInt = riseZ d i6 := e12
            refine lv_aload_n hx hb dX0_misfitWithin_52 rfl (lv_at hl 3 rfl) ?_
            refine lv_iload hx hb dX0_misfitWithin_53 (lv_at hl 6 rfl) ?_
            refine lv_iload hx hb dX0_misfitWithin_55 (lv_at hl 4 rfl) ?_
            refine z_iadd hx hb hx6 e_z dX0_misfitWithin_57 (by omega) (fun z13 e13 => ?_)
            refine z_cV (As := [.int z13]) (rest := [.int z12, .int x5]) ⟨hx, hb, hml, hown, hts⟩ (kX0_riseAt l G o u z13 (i6 + f) e13 (by first | assumption | omega) (by first | assumption | omega)) (cwV 1 hts gX0_misfitWithin_X0_riseAt rfl rfl rfl hyX0_riseAt ⟨Nat.le_of_ble_eq_true rfl, Nat.le_of_ble_eq_true rfl⟩) hK hO hO.1 rfl rfl hl.1 rfl (Nat.le_of_ble_eq_true rfl) dX0_misfitWithin_58 ⟨Nat.zero_le _, Nat.zero_le _⟩ (fun z14 e14 => ?_)
            have e14 : z14.toInt = riseZ u (i6 + f) := e14
            refine z_isub hx hb e12 e14 dX0_misfitWithin_61 (by omega) (fun z15 e15 => ?_)
            refine z_mabs hx hb (hml.trans hl.1.symm) hown (hts _ mlX0_misfitWithin_140.1) (hts _ mlX0_misfitWithin_140.2.1) (hts _ mlX0_misfitWithin_140.2.2.1) (hts _ mlX0_misfitWithin_140.2.2.2) (Nat.le_of_ble_eq_true rfl) (Nat.le_of_ble_eq_true rfl) (Nat.zero_le _) (Nat.zero_le _) e15 (by omega) dX0_misfitWithin_62 (fun z16 e16 => ?_)
            refine z_iadd hx hb hx5 e16 dX0_misfitWithin_65 (by omega) (fun z17 e17 => ?_)
            refine lv_istore hx hb dX0_misfitWithin_66 hl (by decide) rfl (fun ls hl => ?_)
            have hl : lv_has ls 7 [(5, .int z17), (0, .ref g), (1, .int x), (2, .int y), (3, .ref o), (4, .int z), (6, .int x6)] := hl
            refine z_iinc (k := 6) hx hb dX0_misfitWithin_68 hl rfl hx6 (show (Int32.ofInt 1).toInt = (1 : Int) from rfl) (by omega) (by decide) (fun z18 e18 ls hl => ?_)
            have hl : lv_has ls 7 [(6, .int z18), (5, .int z17), (0, .ref g), (1, .int x), (2, .int y), (3, .ref o), (4, .int z)] := hl
            refine lv_goto (tgt := 6) hx hb dX0_misfitWithin_71 (by decide) ?_
            exact ih6 z17 (i5 + (abz ((riseZ d i6) - (riseZ u (i6 + f))))) e17 z18 (i6 + (1 : Int)) e18 (by omega) (by omega) (by rw [sumZ_s (by omega), ht]; omega) (by omega) ls (lv_sub hl [2, 3, 4, 5, 6, 1, 0] rfl)
  refine lv_iconst (v := (0 : Int32)) hx hb dX0_misfitWithin_0 (by decide) ?_
  refine lv_istore hx hb dX0_misfitWithin_1 hl (by decide) rfl (fun ls hl => ?_)
  have hl : lv_has ls 7 [(5, .int (0 : Int32)), (0, .ref g), (1, .int x), (2, .int y), (3, .ref o), (4, .int z)] := hl
  refine lv_iload_n hx hb dX0_misfitWithin_3 rfl (lv_at hl 2 rfl) ?_
  refine lv_istore hx hb dX0_misfitWithin_4 hl (by decide) rfl (fun ls hl => ?_)
  have hl : lv_has ls 7 [(6, .int x), (5, .int (0 : Int32)), (0, .ref g), (1, .int x), (2, .int y), (3, .ref o), (4, .int z)] := hl
  exact cut6 (((b + 1 - a).toNat) + 1) (0 : Int32) (0 : Int) kI_0 x a e_x (Nat.lt_succ_self _) (by omega) (by rw [sumZ_0 (by omega)]) (by omega) ls (lv_sub hl [2, 3, 4, 5, 6, 1, 0] rfl)

abbrev rmX0_misfitAround : Room := { frames := 4, cells := 0, slots := 0, locals := 91 }
theorem hyX0_misfitAround : yX0_misfitAround.cls = RX0 ∧ yX0_misfitAround.cls ≠ "java/lang/invoke/MethodHandle" ∧ yX0_misfitAround.cls ≠ "java/lang/invoke/VarHandle" ∧ (parseMethodDescriptor yX0_misfitAround.desc).map (fun d => d.parameters.length) = some 4 := by decide +kernel
set_option maxHeartbeats 4000000 in
set_option maxRecDepth 100000 in
theorem kX0_misfitAround (l : Launch) (G : xG) (g : Nat) (d : GD) (o : Nat) (u : GD) (x : Int32) (a : Int) (e_x : x.toInt = a) (y : Int32) (b : Int) (e_y : y.toInt = b) (z : Int32) (f : Int) (e_z : z.toInt = f) (hsm : smallG d) (hso : smallG u) (ha : -500 ≤ a ∧ a ≤ 500 ∧ -500 ≤ b ∧ b ≤ 500 ∧ -500 ≤ f ∧ f ≤ 500) : Met l yX0_misfitAround wsX0_misfitAround rmX0_misfitAround (va_Pc [.ref g, .int x, .int y, .ref o, .int z] (zPre G (fun H => GA G H g d ∧ GA G H o u))) (zS (fun v => v.toInt = sumZ (mfT d u f) (a - 11) 12 + sumZ (mfT d u f) (b + 1) 12)) 0 0 zno := by
  refine z_ofW (cc := cX0_misfitAround) (maxL := 5) (ret := some .int) (by decide +kernel) rfl (Nat.le_of_ble_eq_true rfl) ?_
  intro p e s m below meth c hx hb hml hr hts hown hlocks hK hP ls hl
  obtain ⟨hG, hO⟩ := hP
  have hown : s.vm.findClass RX0 = some m.cls := hown
  have hl : lv_has ls 5 [(0, .ref g), (1, .int x), (2, .int y), (3, .ref o), (4, .int z)] := hl
  have hb1 := sumZ_b (f := mfT d u f) (lo := 0) (hi := 4004000) (by omega) (by omega) (mfT_b hsm hso f)
  have hb2 := hb1 (a - 11) 12
  have hb3 := hb1 (b + 1) 12
  refine lv_aload_n hx hb dX0_misfitAround_0 rfl (lv_at hl 0 rfl) ?_
  refine lv_iload_n hx hb dX0_misfitAround_1 rfl (lv_at hl 1 rfl) ?_
  refine lv_bipush (v := (12 : Int32)) hx hb dX0_misfitAround_2 (by decide) ?_
  refine z_isub hx hb e_x kI_12 dX0_misfitAround_4 (by omega) (fun z1 e1 => ?_)
  refine lv_iconst (v := (1 : Int32)) hx hb dX0_misfitAround_5 (by decide) ?_
  refine z_iadd hx hb e1 kI_1 dX0_misfitAround_6 (by omega) (fun z2 e2 => ?_)
  refine lv_iload_n hx hb dX0_misfitAround_7 rfl (lv_at hl 1 rfl) ?_
  refine lv_aload_n hx hb dX0_misfitAround_8 rfl (lv_at hl 3 rfl) ?_
  refine lv_iload hx hb dX0_misfitAround_9 (lv_at hl 4 rfl) ?_
  refine z_cV (As := [.int z2, .int x, .ref o, .int z]) (rest := []) ⟨hx, hb, hml, hown, hts⟩ (kX0_misfitWithin l G g d o u z2 ((a - (12 : Int)) + (1 : Int)) e2 x a e_x z f e_z (by first | assumption | omega) (by first | assumption | omega) (by first | assumption | omega)) (cwV 4 hts gX0_misfitAround_X0_misfitWithin rfl rfl rfl hyX0_misfitWithin ⟨Nat.le_of_ble_eq_true rfl, Nat.le_of_ble_eq_true rfl⟩) hK ⟨hG, hO⟩ hG.1 rfl rfl hl.1 rfl (Nat.le_of_ble_eq_true rfl) dX0_misfitAround_11 ⟨Nat.zero_le _, Nat.zero_le _⟩ (fun z3 e3 => ?_)
  have e3 : z3.toInt = sumZ (mfT d u f) ((a - (12 : Int)) + (1 : Int)) (a + 1 - ((a - (12 : Int)) + (1 : Int))).toNat := e3
  have e3 : z3.toInt = sumZ (mfT d u f) (a - 11) 12 := by rw [e3]; congr 1 <;> omega
  refine lv_aload_n hx hb dX0_misfitAround_14 rfl (lv_at hl 0 rfl) ?_
  refine lv_iload_n hx hb dX0_misfitAround_15 rfl (lv_at hl 2 rfl) ?_
  refine lv_iconst (v := (1 : Int32)) hx hb dX0_misfitAround_16 (by decide) ?_
  refine z_iadd hx hb e_y kI_1 dX0_misfitAround_17 (by omega) (fun z4 e4 => ?_)
  refine lv_iload_n hx hb dX0_misfitAround_18 rfl (lv_at hl 2 rfl) ?_
  refine lv_bipush (v := (12 : Int32)) hx hb dX0_misfitAround_19 (by decide) ?_
  refine z_iadd hx hb e_y kI_12 dX0_misfitAround_21 (by omega) (fun z5 e5 => ?_)
  refine lv_aload_n hx hb dX0_misfitAround_22 rfl (lv_at hl 3 rfl) ?_
  refine lv_iload hx hb dX0_misfitAround_23 (lv_at hl 4 rfl) ?_
  refine z_cV (As := [.int z4, .int z5, .ref o, .int z]) (rest := [.int z3]) ⟨hx, hb, hml, hown, hts⟩ (kX0_misfitWithin l G g d o u z4 (b + (1 : Int)) e4 z5 (b + (12 : Int)) e5 z f e_z (by first | assumption | omega) (by first | assumption | omega) (by first | assumption | omega)) (cwV 4 hts gX0_misfitAround_X0_misfitWithin rfl rfl rfl hyX0_misfitWithin ⟨Nat.le_of_ble_eq_true rfl, Nat.le_of_ble_eq_true rfl⟩) hK ⟨hG, hO⟩ hG.1 rfl rfl hl.1 rfl (Nat.le_of_ble_eq_true rfl) dX0_misfitAround_25 ⟨Nat.zero_le _, Nat.zero_le _⟩ (fun z6 e6 => ?_)
  have e6 : z6.toInt = sumZ (mfT d u f) (b + (1 : Int)) ((b + (12 : Int)) + 1 - (b + (1 : Int))).toNat := e6
  have e6 : z6.toInt = sumZ (mfT d u f) (b + 1) 12 := by rw [e6]; congr 1 <;> omega
  refine z_iadd hx hb e3 e6 dX0_misfitAround_28 (by omega) (fun z7 e7 => ?_)
  exact z_ri (v := z7) hx hb hr hlocks (show z7.toInt = sumZ (mfT d u f) (a - 11) 12 + sumZ (mfT d u f) (b + 1) 12 from (by first | rfl | omega)) dX0_misfitAround_29

abbrev rmX3_heightAt : Room := { frames := 1, cells := 0, slots := 0, locals := 22 }
theorem iwX3_heightAt_3 : ∀ w ∈ wsX30, w ∈ wsX3_heightAt := fun _ h => List.mem_cons_of_mem _ (List.mem_append_right _ h)
theorem flX3_heightAt_13 : Cond.fieldLink RX3 13 "SiltedFloats$Wave" "amplitude" "I" ∈ wsX3_heightAt := by decide +kernel
theorem flX3_heightAt_17 : Cond.fieldLink RX3 17 "SiltedFloats$Wave" "period" "I" ∈ wsX3_heightAt := by decide +kernel
theorem flX3_heightAt_20 : Cond.fieldLink RX3 20 "SiltedFloats$Wave" "phase" "I" ∈ wsX3_heightAt := by decide +kernel
theorem hyX3_heightAt : yX3_heightAt.cls = RX3 ∧ yX3_heightAt.cls ≠ "java/lang/invoke/MethodHandle" ∧ yX3_heightAt.cls ≠ "java/lang/invoke/VarHandle" ∧ (parseMethodDescriptor yX3_heightAt.desc).map (fun d => d.parameters.length) = some 1 := by decide +kernel
set_option maxHeartbeats 4000000 in
set_option maxRecDepth 100000 in
theorem kX3_heightAt (l : Launch) (G : xG) (w : Nat) (v0 : Nat → Int32) (x : Int32) (h : Int) (e_x : x.toInt = h) (hv : waveOk v0) (hh : -1000 ≤ h ∧ h ≤ 1000) : Met l yX3_heightAt wsX3_heightAt rmX3_heightAt (va_Pc [.ref w, .int x] (zPre G (fun H => WV G H w v0))) (zS (fun v => v.toInt = waveZ v0 h)) 0 0 zno := by
  refine z_ofW (cc := cX3_heightAt) (maxL := 4) (ret := some .int) (by decide +kernel) rfl (Nat.le_of_ble_eq_true rfl) ?_
  intro p e s m below meth c hx hb hml hr hts hown hlocks hK hP ls hl
  have hV := hP
  have hown : s.vm.findClass RX3 = some m.cls := hown
  have hl : lv_has ls 4 [(0, .ref w), (1, .int x)] := hl
  obtain ⟨hv1, hv2, hv3⟩ := id hv
  obtain ⟨hq1, hq2, hq3⟩ := hgtZ_b (F := (v0 2).toInt) hv1 hv2 h
  refine lv_aload_n hx hb dX3_heightAt_0 rfl (lv_at hl 0 rfl) ?_
  refine z_get hx hb hts iwX3_heightAt_3 hown hK hV rfl 1 (by decide) flX3_heightAt_17 rfl (v := .int (v0 1)) rfl dX3_heightAt_1 ?_
  refine z_if_gt (tgt := 9) hx hb rfl dX3_heightAt_4 (by decide) (fun c_1 => ?_) (fun c_1 => ?_)
  · refine lv_iload_n hx hb dX3_heightAt_9 rfl (lv_at hl 1 rfl) ?_
    refine lv_aload_n hx hb dX3_heightAt_10 rfl (lv_at hl 0 rfl) ?_
    refine z_get hx hb hts iwX3_heightAt_3 hown hK hV rfl 2 (by decide) flX3_heightAt_20 rfl (v := .int (v0 2)) rfl dX3_heightAt_11 ?_
    refine z_iadd hx hb e_x rfl dX3_heightAt_14 (by omega) (fun z2 e2 => ?_)
    refine lv_aload_n hx hb dX3_heightAt_15 rfl (lv_at hl 0 rfl) ?_
    refine z_get hx hb hts iwX3_heightAt_3 hown hK hV rfl 1 (by decide) flX3_heightAt_17 rfl (v := .int (v0 1)) rfl dX3_heightAt_16 ?_
    refine z_cS (As := [.int z2, .int (v0 1)]) (rest := []) ⟨hx, hb, hml, hown, hts⟩ (kJ9_floorMod_7cf53 l G z2 (h + ((v0 2).toInt)) e2 (v0 1) ((v0 1).toInt) rfl (by first | assumption | omega)) (va_cwS 2 hts gX3_heightAt_J9_floorMod_7cf53 rfl rfl rfl hyJ9_floorMod_7cf53 ⟨Nat.le_of_ble_eq_true rfl, Nat.le_of_ble_eq_true rfl⟩) hK trivial rfl hl.1 rfl (Nat.le_of_ble_eq_true rfl) dX3_heightAt_19 ⟨Nat.zero_le _, Nat.zero_le _⟩ (fun z3 e3 => ?_)
    have e3 : z3.toInt = (h + ((v0 2).toInt)) % ((v0 1).toInt) := e3
    refine lv_istore_n hx hb dX3_heightAt_22 rfl hl (by decide) rfl (fun ls hl => ?_)
    have hl : lv_has ls 4 [(2, .int z3), (0, .ref w), (1, .int x)] := hl
    refine lv_iconst (v := (4 : Int32)) hx hb dX3_heightAt_23 (by decide) ?_
    refine lv_aload_n hx hb dX3_heightAt_24 rfl (lv_at hl 1 rfl) ?_
    refine z_get hx hb hts iwX3_heightAt_3 hown hK hV rfl 0 (by decide) flX3_heightAt_13 rfl (v := .int (v0 0)) rfl dX3_heightAt_25 ?_
    refine z_imul hx hb kI_4 rfl dX3_heightAt_28 (by omega) (fun z4 e4 => ?_)
    refine lv_iload_n hx hb dX3_heightAt_29 rfl (lv_at hl 0 rfl) ?_
    refine z_imul hx hb e4 e3 dX3_heightAt_30 (by omega) (fun z5 e5 => ?_)
    refine lv_aload_n hx hb dX3_heightAt_31 rfl (lv_at hl 1 rfl) ?_
    refine z_get hx hb hts iwX3_heightAt_3 hown hK hV rfl 1 (by decide) flX3_heightAt_17 rfl (v := .int (v0 1)) rfl dX3_heightAt_32 ?_
    refine z_cS (As := [.int z5, .int (v0 1)]) (rest := []) ⟨hx, hb, hml, hown, hts⟩ (kJ9_floorDiv_7cf53 l G z5 (((4 : Int) * ((v0 0).toInt)) * ((h + ((v0 2).toInt)) % ((v0 1).toInt))) e5 (v0 1) ((v0 1).toInt) rfl (by first | assumption | omega)) (va_cwS 2 hts gX3_heightAt_J9_floorDiv_7cf53 rfl rfl rfl hyJ9_floorDiv_7cf53 ⟨Nat.le_of_ble_eq_true rfl, Nat.le_of_ble_eq_true rfl⟩) hK trivial rfl hl.1 rfl (Nat.le_of_ble_eq_true rfl) dX3_heightAt_35 ⟨Nat.zero_le _, Nat.zero_le _⟩ (fun z6 e6 => ?_)
    have e6 : z6.toInt = (((4 : Int) * ((v0 0).toInt)) * ((h + ((v0 2).toInt)) % ((v0 1).toInt))) / ((v0 1).toInt) := e6
    refine lv_istore_n hx hb dX3_heightAt_38 rfl hl (by decide) rfl (fun ls hl => ?_)
    have hl : lv_has ls 4 [(3, .int z6), (2, .int z3), (0, .ref w), (1, .int x)] := hl
    refine lv_iconst (v := (2 : Int32)) hx hb dX3_heightAt_39 (by decide) ?_
    refine lv_iload_n hx hb dX3_heightAt_40 rfl (lv_at hl 1 rfl) ?_
    refine z_imul hx hb kI_2 e3 dX3_heightAt_41 (by omega) (fun z7 e7 => ?_)
    refine lv_aload_n hx hb dX3_heightAt_42 rfl (lv_at hl 2 rfl) ?_
    refine z_get hx hb hts iwX3_heightAt_3 hown hK hV rfl 1 (by decide) flX3_heightAt_17 rfl (v := .int (v0 1)) rfl dX3_heightAt_43 ?_
    refine z_icmp_gt (tgt := 58) hx hb e7 rfl dX3_heightAt_46 (by decide) (fun c_8 => ?_) (fun c_8 => ?_)
    · refine lv_iconst (v := (3 : Int32)) hx hb dX3_heightAt_58 (by decide) ?_
      refine lv_aload_n hx hb dX3_heightAt_59 rfl (lv_at hl 2 rfl) ?_
      refine z_get hx hb hts iwX3_heightAt_3 hown hK hV rfl 0 (by decide) flX3_heightAt_13 rfl (v := .int (v0 0)) rfl dX3_heightAt_60 ?_
      refine z_imul hx hb kI_3 rfl dX3_heightAt_63 (by omega) (fun z9 e9 => ?_)
      refine lv_iload_n hx hb dX3_heightAt_64 rfl (lv_at hl 0 rfl) ?_
      refine z_isub hx hb e9 e6 dX3_heightAt_65 (by omega) (fun z10 e10 => ?_)
      exact z_ri (v := z10) hx hb hr hlocks (show z10.toInt = waveZ v0 h from (by rw [e10]; unfold waveZ hgtZ; rw [if_neg (by omega)])) dX3_heightAt_66
    · refine lv_iload_n hx hb dX3_heightAt_49 rfl (lv_at hl 0 rfl) ?_
      refine lv_aload_n hx hb dX3_heightAt_50 rfl (lv_at hl 2 rfl) ?_
      refine z_get hx hb hts iwX3_heightAt_3 hown hK hV rfl 0 (by decide) flX3_heightAt_13 rfl (v := .int (v0 0)) rfl dX3_heightAt_51 ?_
      refine z_isub hx hb e6 rfl dX3_heightAt_54 (by omega) (fun z11 e11 => ?_)
      refine lv_goto (tgt := 66) hx hb dX3_heightAt_55 (by decide) ?_
      exact z_ri (v := z11) hx hb hr hlocks (show z11.toInt = waveZ v0 h from (by rw [e11]; unfold waveZ hgtZ; rw [if_pos (by omega)])) dX3_heightAt_66
  · refine lv_iconst (v := (0 : Int32)) hx hb dX3_heightAt_7 (by decide) ?_
    exact z_ri (v := (0 : Int32)) hx hb hr hlocks (show (0 : Int32).toInt = waveZ v0 h from (by omega)) dX3_heightAt_8

abbrev rmX3_isSo : Room := { frames := 0, cells := 0, slots := 0, locals := 0 }
theorem iwX3_isSo_3 : ∀ w ∈ wsX30, w ∈ wsX3_isSo := fun _ h => List.mem_cons_of_mem _ (List.mem_append_right _ h)
theorem flX3_isSo_13 : Cond.fieldLink RX3 13 "SiltedFloats$Wave" "amplitude" "I" ∈ wsX3_isSo := by decide +kernel
theorem flX3_isSo_17 : Cond.fieldLink RX3 17 "SiltedFloats$Wave" "period" "I" ∈ wsX3_isSo := by decide +kernel
theorem flX3_isSo_20 : Cond.fieldLink RX3 20 "SiltedFloats$Wave" "phase" "I" ∈ wsX3_isSo := by decide +kernel
theorem hyX3_isSo : yX3_isSo.cls = RX3 ∧ yX3_isSo.cls ≠ "java/lang/invoke/MethodHandle" ∧ yX3_isSo.cls ≠ "java/lang/invoke/VarHandle" ∧ (parseMethodDescriptor yX3_isSo.desc).map (fun d => d.parameters.length) = some 3 := by decide +kernel
set_option maxHeartbeats 4000000 in
set_option maxRecDepth 100000 in
theorem kX3_isSo (l : Launch) (G : xG) (w : Nat) (v0 : Nat → Int32) (x : Int32) (a : Int) (e_x : x.toInt = a) (y : Int32) (b : Int) (e_y : y.toInt = b) (z : Int32) (f : Int) (e_z : z.toInt = f) : Met l yX3_isSo wsX3_isSo rmX3_isSo (va_Pc [.ref w, .int x, .int y, .int z] (zPre G (fun H => WV G H w v0))) (zS (fun v => isB v (((v0 0).toInt = a ∧ (v0 1).toInt = b) ∧ (v0 2).toInt = f))) 0 0 zno := by
  refine z_ofW (cc := cX3_isSo) (maxL := 4) (ret := some .boolean) (by decide +kernel) rfl (Nat.le_of_ble_eq_true rfl) ?_
  intro p e s m below meth c hx hb hml hr hts hown hlocks hK hP ls hl
  have hV := hP
  have hown : s.vm.findClass RX3 = some m.cls := hown
  have hl : lv_has ls 4 [(0, .ref w), (1, .int x), (2, .int y), (3, .int z)] := hl
  refine lv_aload_n hx hb dX3_isSo_0 rfl (lv_at hl 0 rfl) ?_
  refine z_get hx hb hts iwX3_isSo_3 hown hK hV rfl 0 (by decide) flX3_isSo_13 rfl (v := .int (v0 0)) rfl dX3_isSo_1 ?_
  refine lv_iload_n hx hb dX3_isSo_4 rfl (lv_at hl 1 rfl) ?_
  refine z_icmp_ne (tgt := 28) hx hb rfl e_x dX3_isSo_5 (by decide) (fun c_1 => ?_) (fun c_1 => ?_)
  · refine lv_iconst (v := (0 : Int32)) hx hb dX3_isSo_28 (by decide) ?_
    exact z_rb (v := (0 : Int32)) hx hb hr hlocks rfl (isB.f rfl (by omega)) dX3_isSo_29
  · refine lv_aload_n hx hb dX3_isSo_8 rfl (lv_at hl 0 rfl) ?_
    refine z_get hx hb hts iwX3_isSo_3 hown hK hV rfl 1 (by decide) flX3_isSo_17 rfl (v := .int (v0 1)) rfl dX3_isSo_9 ?_
    refine lv_iload_n hx hb dX3_isSo_12 rfl (lv_at hl 2 rfl) ?_
    refine z_icmp_ne (tgt := 28) hx hb rfl e_y dX3_isSo_13 (by decide) (fun c_2 => ?_) (fun c_2 => ?_)
    · refine lv_iconst (v := (0 : Int32)) hx hb dX3_isSo_28 (by decide) ?_
      exact z_rb (v := (0 : Int32)) hx hb hr hlocks rfl (isB.f rfl (by omega)) dX3_isSo_29
    · refine lv_aload_n hx hb dX3_isSo_16 rfl (lv_at hl 0 rfl) ?_
      refine z_get hx hb hts iwX3_isSo_3 hown hK hV rfl 2 (by decide) flX3_isSo_20 rfl (v := .int (v0 2)) rfl dX3_isSo_17 ?_
      refine lv_iload_n hx hb dX3_isSo_20 rfl (lv_at hl 3 rfl) ?_
      refine z_icmp_ne (tgt := 28) hx hb rfl e_z dX3_isSo_21 (by decide) (fun c_3 => ?_) (fun c_3 => ?_)
      · refine lv_iconst (v := (0 : Int32)) hx hb dX3_isSo_28 (by decide) ?_
        exact z_rb (v := (0 : Int32)) hx hb hr hlocks rfl (isB.f rfl (by omega)) dX3_isSo_29
      · refine lv_iconst (v := (1 : Int32)) hx hb dX3_isSo_24 (by decide) ?_
        refine lv_goto (tgt := 29) hx hb dX3_isSo_25 (by decide) ?_
        exact z_rb (v := (1 : Int32)) hx hb hr hlocks rfl (isB.t rfl (by omega)) dX3_isSo_29

abbrev rmX0_isSo : Room := { frames := 0, cells := 0, slots := 0, locals := 0 }
theorem iwX0_isSo_0 : ∀ w ∈ wsX00, w ∈ wsX0_isSo := fun _ h => List.mem_cons_of_mem _ (List.mem_append_right _ h)
theorem flX0_isSo_39 : Cond.fieldLink RX0 39 "SiltedFloats$Gauge" "delay" "I" ∈ wsX0_isSo := by decide +kernel
theorem flX0_isSo_42 : Cond.fieldLink RX0 42 "SiltedFloats$Gauge" "scale" "I" ∈ wsX0_isSo := by decide +kernel
theorem flX0_isSo_45 : Cond.fieldLink RX0 45 "SiltedFloats$Gauge" "offset" "I" ∈ wsX0_isSo := by decide +kernel
theorem hyX0_isSo : yX0_isSo.cls = RX0 ∧ yX0_isSo.cls ≠ "java/lang/invoke/MethodHandle" ∧ yX0_isSo.cls ≠ "java/lang/invoke/VarHandle" ∧ (parseMethodDescriptor yX0_isSo.desc).map (fun d => d.parameters.length) = some 3 := by decide +kernel
set_option maxHeartbeats 4000000 in
set_option maxRecDepth 100000 in
theorem kX0_isSo (l : Launch) (G : xG) (g : Nat) (d : GD) (x : Int32) (a : Int) (e_x : x.toInt = a) (y : Int32) (b : Int) (e_y : y.toInt = b) (z : Int32) (f : Int) (e_z : z.toInt = f) : Met l yX0_isSo wsX0_isSo rmX0_isSo (va_Pc [.ref g, .int x, .int y, .int z] (zPre G (fun H => GA G H g d))) (zS (fun v => isB v (((d.1 0).toInt = a ∧ (d.1 1).toInt = b) ∧ (d.1 2).toInt = f))) 0 0 zno := by
  refine z_ofW (cc := cX0_isSo) (maxL := 4) (ret := some .boolean) (by decide +kernel) rfl (Nat.le_of_ble_eq_true rfl) ?_
  intro p e s m below meth c hx hb hml hr hts hown hlocks hK hP ls hl
  have hG := hP
  have hown : s.vm.findClass RX0 = some m.cls := hown
  have hl : lv_has ls 4 [(0, .ref g), (1, .int x), (2, .int y), (3, .int z)] := hl
  refine lv_aload_n hx hb dX0_isSo_0 rfl (lv_at hl 0 rfl) ?_
  refine z_get hx hb hts iwX0_isSo_0 hown hK hG.1 rfl 0 (by decide) flX0_isSo_39 rfl (v := .int (d.1 0)) rfl dX0_isSo_1 ?_
  refine lv_iload_n hx hb dX0_isSo_4 rfl (lv_at hl 1 rfl) ?_
  refine z_icmp_ne (tgt := 28) hx hb rfl e_x dX0_isSo_5 (by decide) (fun c_1 => ?_) (fun c_1 => ?_)
  · refine lv_iconst (v := (0 : Int32)) hx hb dX0_isSo_28 (by decide) ?_
    exact z_rb (v := (0 : Int32)) hx hb hr hlocks rfl (isB.f rfl (by omega)) dX0_isSo_29
  · refine lv_aload_n hx hb dX0_isSo_8 rfl (lv_at hl 0 rfl) ?_
    refine z_get hx hb hts iwX0_isSo_0 hown hK hG.1 rfl 1 (by decide) flX0_isSo_42 rfl (v := .int (d.1 1)) rfl dX0_isSo_9 ?_
    refine lv_iload_n hx hb dX0_isSo_12 rfl (lv_at hl 2 rfl) ?_
    refine z_icmp_ne (tgt := 28) hx hb rfl e_y dX0_isSo_13 (by decide) (fun c_2 => ?_) (fun c_2 => ?_)
    · refine lv_iconst (v := (0 : Int32)) hx hb dX0_isSo_28 (by decide) ?_
      exact z_rb (v := (0 : Int32)) hx hb hr hlocks rfl (isB.f rfl (by omega)) dX0_isSo_29
    · refine lv_aload_n hx hb dX0_isSo_16 rfl (lv_at hl 0 rfl) ?_
      refine z_get hx hb hts iwX0_isSo_0 hown hK hG.1 rfl 2 (by decide) flX0_isSo_45 rfl (v := .int (d.1 2)) rfl dX0_isSo_17 ?_
      refine lv_iload_n hx hb dX0_isSo_20 rfl (lv_at hl 3 rfl) ?_
      refine z_icmp_ne (tgt := 28) hx hb rfl e_z dX0_isSo_21 (by decide) (fun c_3 => ?_) (fun c_3 => ?_)
      · refine lv_iconst (v := (0 : Int32)) hx hb dX0_isSo_28 (by decide) ?_
        exact z_rb (v := (0 : Int32)) hx hb hr hlocks rfl (isB.f rfl (by omega)) dX0_isSo_29
      · refine lv_iconst (v := (1 : Int32)) hx hb dX0_isSo_24 (by decide) ?_
        refine lv_goto (tgt := 29) hx hb dX0_isSo_25 (by decide) ?_
        exact z_rb (v := (1 : Int32)) hx hb hr hlocks rfl (isB.t rfl (by omega)) dX0_isSo_29

abbrev rmX0_isNotedAt : Room := { frames := 0, cells := 0, slots := 0, locals := 0 }
theorem iwX0_isNotedAt_0 : ∀ w ∈ wsX00, w ∈ wsX0_isNotedAt := fun _ h => List.mem_cons_of_mem _ (List.mem_append_right _ h)
theorem flX0_isNotedAt_66 : Cond.fieldLink RX0 66 "SiltedFloats$Gauge" "lastNoteHour" "I" ∈ wsX0_isNotedAt := by decide +kernel
theorem hyX0_isNotedAt : yX0_isNotedAt.cls = RX0 ∧ yX0_isNotedAt.cls ≠ "java/lang/invoke/MethodHandle" ∧ yX0_isNotedAt.cls ≠ "java/lang/invoke/VarHandle" ∧ (parseMethodDescriptor yX0_isNotedAt.desc).map (fun d => d.parameters.length) = some 1 := by decide +kernel
set_option maxHeartbeats 4000000 in
set_option maxRecDepth 100000 in
theorem kX0_isNotedAt (l : Launch) (G : xG) (g : Nat) (d : GD) (x : Int32) (h : Int) (e_x : x.toInt = h) : Met l yX0_isNotedAt wsX0_isNotedAt rmX0_isNotedAt (va_Pc [.ref g, .int x] (zPre G (fun H => GA G H g d))) (zS (fun v => isB v ((d.1 11).toInt = h))) 0 0 zno := by
  refine z_ofW (cc := cX0_isNotedAt) (maxL := 2) (ret := some .boolean) (by decide +kernel) rfl (Nat.le_of_ble_eq_true rfl) ?_
  intro p e s m below meth c hx hb hml hr hts hown hlocks hK hP ls hl
  have hG := hP
  have hown : s.vm.findClass RX0 = some m.cls := hown
  have hl : lv_has ls 2 [(0, .ref g), (1, .int x)] := hl
  refine lv_aload_n hx hb dX0_isNotedAt_0 rfl (lv_at hl 0 rfl) ?_
  refine z_get hx hb hts iwX0_isNotedAt_0 hown hK hG.1 rfl 11 (by decide) flX0_isNotedAt_66 rfl (v := .int (d.1 11)) rfl dX0_isNotedAt_1 ?_
  refine lv_iload_n hx hb dX0_isNotedAt_4 rfl (lv_at hl 1 rfl) ?_
  refine z_icmp_ne (tgt := 12) hx hb rfl e_x dX0_isNotedAt_5 (by decide) (fun c_1 => ?_) (fun c_1 => ?_)
  · refine lv_iconst (v := (0 : Int32)) hx hb dX0_isNotedAt_12 (by decide) ?_
    exact z_rb (v := (0 : Int32)) hx hb hr hlocks rfl (isB.f rfl (by omega)) dX0_isNotedAt_13
  · refine lv_iconst (v := (1 : Int32)) hx hb dX0_isNotedAt_8 (by decide) ?_
    refine lv_goto (tgt := 13) hx hb dX0_isNotedAt_9 (by decide) ?_
    exact z_rb (v := (1 : Int32)) hx hb hr hlocks rfl (isB.t rfl (by omega)) dX0_isNotedAt_13
