abbrev rmJ9_floorDiv_7cf53 : Room := { frames := 0, cells := 0, slots := 0, locals := 0 }
theorem hyJ9_floorDiv_7cf53 : yJ9_floorDiv_7cf53.cls ≠ "java/lang/invoke/MethodHandle" ∧ yJ9_floorDiv_7cf53.cls ≠ "java/lang/invoke/VarHandle" ∧ (parseMethodDescriptor yJ9_floorDiv_7cf53.desc).map (fun d => d.parameters.length) = some 2 := by decide +kernel
set_option maxHeartbeats 4000000 in
set_option maxRecDepth 100000 in
theorem kJ9_floorDiv_7cf53 (l : Launch) (G : xG) (x : Int32) (i : Int) (e_x : x.toInt = i) (y : Int32) (j : Int) (e_y : y.toInt = j) (hj : 0 < j) : Met l yJ9_floorDiv_7cf53 wsJ9_floorDiv_7cf53 rmJ9_floorDiv_7cf53 (va_Pc [.int x, .int y] (zPre G (fun H => True))) (zS (fun v => v.toInt = i / j)) 0 0 zno := by
  refine z_ofWF (cc := cJ9_floorDiv_7cf53) (maxL := 3) (ret := some .int) (by decide +kernel) rfl (Nat.le_of_ble_eq_true rfl) ?_
  intro p e s m below meth c hx hb hml hr hts hown hlocks hK hP ls hl
  have hown : s.vm.findClass RJ9 = some m.cls := hown
  have hl : lv_has ls 3 [(0, .int x), (1, .int y)] := hl
  have hx1 := zi_lo x
  have hx2 := zi_hi x
  refine lv_iload_n hx hb dJ9_floorDiv_7cf53_0 rfl (lv_at hl 0 rfl) ?_
  refine lv_iload_n hx hb dJ9_floorDiv_7cf53_1 rfl (lv_at hl 1 rfl) ?_
  refine z_idiv hx hb e_x e_y dJ9_floorDiv_7cf53_2 (by omega) (fun z1 e1 => ?_)
  refine lv_istore_n hx hb dJ9_floorDiv_7cf53_3 rfl hl (by decide) rfl (fun ls hl => ?_)
  have hl : lv_has ls 3 [(2, .int z1), (0, .int x), (1, .int y)] := hl
  refine lv_iload_n hx hb dJ9_floorDiv_7cf53_4 rfl (lv_at hl 1 rfl) ?_
  refine lv_iload_n hx hb dJ9_floorDiv_7cf53_5 rfl (lv_at hl 2 rfl) ?_
  refine z_ixor hx hb e_x e_y dJ9_floorDiv_7cf53_6 (fun z2 e2 => ?_)
  refine z_if_ge (tgt := 21) hx hb rfl dJ9_floorDiv_7cf53_7 (by decide) (fun c_3 => ?_) (fun c_3 => ?_)
  · refine lv_iload_n hx hb dJ9_floorDiv_7cf53_21 rfl (lv_at hl 0 rfl) ?_
    exact z_ri (v := z1) hx hb hr hlocks (show z1.toInt = i / j from (by rw [e1, Int.tdiv_eq_ediv_of_nonneg (by omega)])) dJ9_floorDiv_7cf53_22
  · refine lv_iload_n hx hb dJ9_floorDiv_7cf53_10 rfl (lv_at hl 0 rfl) ?_
    refine lv_iload_n hx hb dJ9_floorDiv_7cf53_11 rfl (lv_at hl 2 rfl) ?_
    refine z_imul hx hb e1 e_y dJ9_floorDiv_7cf53_12 (fd_b (by omega) (by omega) hj (by omega)) (fun z4 e4 => ?_)
    refine lv_iload_n hx hb dJ9_floorDiv_7cf53_13 rfl (lv_at hl 1 rfl) ?_
    refine z_icmp_eq (tgt := 21) hx hb e4 e_x dJ9_floorDiv_7cf53_14 (by decide) (fun c_5 => ?_) (fun c_5 => ?_)
    · refine lv_iload_n hx hb dJ9_floorDiv_7cf53_21 rfl (lv_at hl 0 rfl) ?_
      exact z_ri (v := z1) hx hb hr hlocks (show z1.toInt = i / j from (by rw [e1]; exact fd_exact hj (by assumption))) dJ9_floorDiv_7cf53_22
    · refine lv_iload_n hx hb dJ9_floorDiv_7cf53_17 rfl (lv_at hl 0 rfl) ?_
      refine lv_iconst (v := (1 : Int32)) hx hb dJ9_floorDiv_7cf53_18 (by decide) ?_
      refine z_isub hx hb e1 kI_1 dJ9_floorDiv_7cf53_19 (by have hq1 := fd_neg (i := i) (by omega) hj (by assumption); have hq2 := fd_ge (i := i) (by omega) hj; have hq3 := fd_lt (i := i) (by omega) hj; omega) (fun z6 e6 => ?_)
      exact z_ri (v := z6) hx hb hr hlocks (show z6.toInt = i / j from (by rw [e6]; exact fd_neg (by omega) hj (by assumption))) dJ9_floorDiv_7cf53_20

abbrev rmJ9_floorMod_7cf53 : Room := { frames := 0, cells := 0, slots := 0, locals := 0 }
theorem hyJ9_floorMod_7cf53 : yJ9_floorMod_7cf53.cls ≠ "java/lang/invoke/MethodHandle" ∧ yJ9_floorMod_7cf53.cls ≠ "java/lang/invoke/VarHandle" ∧ (parseMethodDescriptor yJ9_floorMod_7cf53.desc).map (fun d => d.parameters.length) = some 2 := by decide +kernel
set_option maxHeartbeats 4000000 in
set_option maxRecDepth 100000 in
theorem kJ9_floorMod_7cf53 (l : Launch) (G : xG) (x : Int32) (i : Int) (e_x : x.toInt = i) (y : Int32) (j : Int) (e_y : y.toInt = j) (hj : 0 < j) : Met l yJ9_floorMod_7cf53 wsJ9_floorMod_7cf53 rmJ9_floorMod_7cf53 (va_Pc [.int x, .int y] (zPre G (fun H => True))) (zS (fun v => v.toInt = i % j)) 0 0 zno := by
  refine z_ofWF (cc := cJ9_floorMod_7cf53) (maxL := 3) (ret := some .int) (by decide +kernel) rfl (Nat.le_of_ble_eq_true rfl) ?_
  intro p e s m below meth c hx hb hml hr hts hown hlocks hK hP ls hl
  have hown : s.vm.findClass RJ9 = some m.cls := hown
  have hl : lv_has ls 3 [(0, .int x), (1, .int y)] := hl
  have hy2 := zi_hi y
  refine lv_iload_n hx hb dJ9_floorMod_7cf53_0 rfl (lv_at hl 0 rfl) ?_
  refine lv_iload_n hx hb dJ9_floorMod_7cf53_1 rfl (lv_at hl 1 rfl) ?_
  refine z_irem hx hb e_x e_y dJ9_floorMod_7cf53_2 (by omega) (fun z1 e1 => ?_)
  refine lv_istore_n hx hb dJ9_floorMod_7cf53_3 rfl hl (by decide) rfl (fun ls hl => ?_)
  have hl : lv_has ls 3 [(2, .int z1), (0, .int x), (1, .int y)] := hl
  refine lv_iload_n hx hb dJ9_floorMod_7cf53_4 rfl (lv_at hl 1 rfl) ?_
  refine lv_iload_n hx hb dJ9_floorMod_7cf53_5 rfl (lv_at hl 2 rfl) ?_
  refine z_ixor hx hb e_x e_y dJ9_floorMod_7cf53_6 (fun z2 e2 => ?_)
  refine z_if_ge (tgt := 18) hx hb rfl dJ9_floorMod_7cf53_7 (by decide) (fun c_3 => ?_) (fun c_3 => ?_)
  · refine lv_iload_n hx hb dJ9_floorMod_7cf53_18 rfl (lv_at hl 0 rfl) ?_
    exact z_ri (v := z1) hx hb hr hlocks (show z1.toInt = i % j from (by rw [e1, Int.tmod_eq_emod_of_nonneg (by omega)])) dJ9_floorMod_7cf53_19
  · refine lv_iload_n hx hb dJ9_floorMod_7cf53_10 rfl (lv_at hl 0 rfl) ?_
    refine z_if_eq (tgt := 18) hx hb e1 dJ9_floorMod_7cf53_11 (by decide) (fun c_4 => ?_) (fun c_4 => ?_)
    · refine lv_iload_n hx hb dJ9_floorMod_7cf53_18 rfl (lv_at hl 0 rfl) ?_
      exact z_ri (v := z1) hx hb hr hlocks (show z1.toInt = i % j from (by rw [e1]; exact fm_0 (by omega) hj (by assumption))) dJ9_floorMod_7cf53_19
    · refine lv_iload_n hx hb dJ9_floorMod_7cf53_14 rfl (lv_at hl 0 rfl) ?_
      refine lv_iload_n hx hb dJ9_floorMod_7cf53_15 rfl (lv_at hl 2 rfl) ?_
      refine z_iadd hx hb e1 e_y dJ9_floorMod_7cf53_16 (by have hq1 := fd_sgn (i := i) (by omega) hj; omega) (fun z5 e5 => ?_)
      exact z_ri (v := z5) hx hb hr hlocks (show z5.toInt = i % j from (by rw [e5]; exact fm_neg (by omega) hj (by assumption))) dJ9_floorMod_7cf53_17

abbrev rmX4_shareOf : Room := { frames := 1, cells := 0, slots := 0, locals := 22 }
theorem hyX4_shareOf : yX4_shareOf.cls ≠ "java/lang/invoke/MethodHandle" ∧ yX4_shareOf.cls ≠ "java/lang/invoke/VarHandle" ∧ (parseMethodDescriptor yX4_shareOf.desc).map (fun d => d.parameters.length) = some 3 := by decide +kernel
set_option maxHeartbeats 4000000 in
set_option maxRecDepth 100000 in
theorem kX4_shareOf (l : Launch) (G : xG) (x : Int32) (w : Int) (e_x : x.toInt = w) (y : Int32) (h : Int) (e_y : y.toInt = h) (z : Int32) (a : Int) (e_z : z.toInt = a) (hwh : -2147483648 ≤ w * h ∧ w * h ≤ 2147483647) : Met l yX4_shareOf wsX4_shareOf rmX4_shareOf (va_Pc [.int x, .int y, .int z] (zPre G (fun H => True))) (zS (fun v => v.toInt = shZ w h a)) 0 0 zno := by
  refine z_ofW (cc := cX4_shareOf) (maxL := 3) (ret := some .int) (by decide +kernel) rfl (Nat.le_of_ble_eq_true rfl) ?_
  intro p e s m below meth c hx hb hml hr hts hown hlocks hK hP ls hl
  have hown : s.vm.findClass RX4 = some m.cls := hown
  have hl : lv_has ls 3 [(0, .int x), (1, .int y), (2, .int z)] := hl
  refine lv_iload_n hx hb dX4_shareOf_0 rfl (lv_at hl 2 rfl) ?_
  refine z_if_gt (tgt := 8) hx hb e_z dX4_shareOf_1 (by decide) (fun c_1 => ?_) (fun c_1 => ?_)
  · refine lv_iload_n hx hb dX4_shareOf_8 rfl (lv_at hl 0 rfl) ?_
    refine lv_iload_n hx hb dX4_shareOf_9 rfl (lv_at hl 1 rfl) ?_
    refine z_imul hx hb e_x e_y dX4_shareOf_10 hwh (fun z2 e2 => ?_)
    refine lv_iload_n hx hb dX4_shareOf_11 rfl (lv_at hl 2 rfl) ?_
    refine z_cS (As := [.int z2, .int z]) (rest := []) ⟨hx, hb, hml, hown, hts⟩ (kJ9_floorDiv_7cf53 l G z2 (w * h) e2 z a e_z (by first | assumption | omega)) (va_cwS 2 hts gX4_shareOf_J9_floorDiv_7cf53 rfl rfl rfl hyJ9_floorDiv_7cf53 ⟨Nat.le_of_ble_eq_true rfl, Nat.le_of_ble_eq_true rfl⟩) hK trivial rfl hl.1 rfl (Nat.le_of_ble_eq_true rfl) dX4_shareOf_12 ⟨Nat.zero_le _, Nat.zero_le _⟩ (fun z3 e3 => ?_)
    have e3 : z3.toInt = (w * h) / a := e3
    exact z_ri (v := z3) hx hb hr hlocks (show z3.toInt = shZ w h a from (by rw [e3, shZ, if_neg (by omega)])) dX4_shareOf_15
  · refine lv_iconst (v := (0 : Int32)) hx hb dX4_shareOf_4 (by decide) ?_
    refine lv_goto (tgt := 15) hx hb dX4_shareOf_5 (by decide) ?_
    exact z_ri (v := (0 : Int32)) hx hb hr hlocks (show (0 : Int32).toInt = shZ w h a from (by rw [shZ, if_pos (by omega)]; rfl)) dX4_shareOf_15

abbrev rmX4_phaseOfStep : Room := { frames := 0, cells := 0, slots := 0, locals := 0 }
theorem hyX4_phaseOfStep : yX4_phaseOfStep.cls ≠ "java/lang/invoke/MethodHandle" ∧ yX4_phaseOfStep.cls ≠ "java/lang/invoke/VarHandle" ∧ (parseMethodDescriptor yX4_phaseOfStep.desc).map (fun d => d.parameters.length) = some 1 := by decide +kernel
set_option maxHeartbeats 4000000 in
set_option maxRecDepth 100000 in
theorem kX4_phaseOfStep (l : Launch) (G : xG) (x : Int32) (k : Int) (e_x : x.toInt = k) (hk : 0 ≤ k ∧ k ≤ 1000) : Met l yX4_phaseOfStep wsX4_phaseOfStep rmX4_phaseOfStep (va_Pc [.int x] (zPre G (fun H => True))) (zS (fun v => v.toInt = phZ k)) 0 0 zno := by
  refine z_ofW (cc := cX4_phaseOfStep) (maxL := 1) (ret := some .int) (by decide +kernel) rfl (Nat.le_of_ble_eq_true rfl) ?_
  intro p e s m below meth c hx hb hml hr hts hown hlocks hK hP ls hl
  have hown : s.vm.findClass RX4 = some m.cls := hown
  have hl : lv_has ls 1 [(0, .int x)] := hl
  refine lv_iload_n hx hb dX4_phaseOfStep_0 rfl (lv_at hl 0 rfl) ?_
  refine lv_iconst (v := (2 : Int32)) hx hb dX4_phaseOfStep_1 (by decide) ?_
  refine z_iremp hx hb e_x kI_2 dX4_phaseOfStep_2 (by omega) (fun z1 e1 => ?_)
  refine z_if_ne (tgt := 12) hx hb e1 dX4_phaseOfStep_3 (by decide) (fun c_2 => ?_) (fun c_2 => ?_)
  · refine lv_iload_n hx hb dX4_phaseOfStep_12 rfl (lv_at hl 0 rfl) ?_
    refine lv_iconst (v := (1 : Int32)) hx hb dX4_phaseOfStep_13 (by decide) ?_
    refine z_iadd hx hb e_x kI_1 dX4_phaseOfStep_14 (by omega) (fun z3 e3 => ?_)
    refine z_ineg hx hb e3 dX4_phaseOfStep_15 (by omega) (fun z4 e4 => ?_)
    refine lv_iconst (v := (2 : Int32)) hx hb dX4_phaseOfStep_16 (by decide) ?_
    refine z_idiv hx hb e4 kI_2 dX4_phaseOfStep_17 (by omega) (fun z5 e5 => ?_)
    exact z_ri (v := z5) hx hb hr hlocks (show z5.toInt = phZ k from (by rw [e5, phZ, if_neg (by assumption), Int.neg_tdiv, Int.tdiv_eq_ediv_of_nonneg (by omega)])) dX4_phaseOfStep_18
  · refine lv_iload_n hx hb dX4_phaseOfStep_6 rfl (lv_at hl 0 rfl) ?_
    refine lv_iconst (v := (2 : Int32)) hx hb dX4_phaseOfStep_7 (by decide) ?_
    refine z_idivp hx hb e_x kI_2 dX4_phaseOfStep_8 (by omega) (fun z6 e6 => ?_)
    refine lv_goto (tgt := 18) hx hb dX4_phaseOfStep_9 (by decide) ?_
    exact z_ri (v := z6) hx hb hr hlocks (show z6.toInt = phZ k from (by rw [e6, phZ, if_pos (by assumption)])) dX4_phaseOfStep_18

abbrev rmX0_isDue : Room := { frames := 0, cells := 0, slots := 0, locals := 0 }
theorem hyX0_isDue : yX0_isDue.cls ≠ "java/lang/invoke/MethodHandle" ∧ yX0_isDue.cls ≠ "java/lang/invoke/VarHandle" ∧ (parseMethodDescriptor yX0_isDue.desc).map (fun d => d.parameters.length) = some 2 := by decide +kernel
set_option maxHeartbeats 4000000 in
set_option maxRecDepth 100000 in
theorem kX0_isDue (l : Launch) (G : xG) (x : Int32) (ev : Int) (e_x : x.toInt = ev) (y : Int32) (h : Int) (e_y : y.toInt = h) (hh : 0 ≤ h ∧ h ≤ 1000000) : Met l yX0_isDue wsX0_isDue rmX0_isDue (va_Pc [.int x, .int y] (zPre G (fun H => True))) (zS (fun v => isB v (0 < ev ∧ (h + 1) % ev = 0))) 0 0 zno := by
  refine z_ofW (cc := cX0_isDue) (maxL := 2) (ret := some .boolean) (by decide +kernel) rfl (Nat.le_of_ble_eq_true rfl) ?_
  intro p e s m below meth c hx hb hml hr hts hown hlocks hK hP ls hl
  have hown : s.vm.findClass RX0 = some m.cls := hown
  have hl : lv_has ls 2 [(0, .int x), (1, .int y)] := hl
  refine lv_iload_n hx hb dX0_isDue_0 rfl (lv_at hl 0 rfl) ?_
  refine z_if_le (tgt := 16) hx hb e_x dX0_isDue_1 (by decide) (fun c_1 => ?_) (fun c_1 => ?_)
  · refine lv_iconst (v := (0 : Int32)) hx hb dX0_isDue_16 (by decide) ?_
    exact z_rb (v := (0 : Int32)) hx hb hr hlocks rfl (isB.f rfl (by omega)) dX0_isDue_17
  · refine lv_iload_n hx hb dX0_isDue_4 rfl (lv_at hl 1 rfl) ?_
    refine lv_iconst (v := (1 : Int32)) hx hb dX0_isDue_5 (by decide) ?_
    refine z_iadd hx hb e_y kI_1 dX0_isDue_6 (by omega) (fun z2 e2 => ?_)
    refine lv_iload_n hx hb dX0_isDue_7 rfl (lv_at hl 0 rfl) ?_
    refine z_iremp hx hb e2 e_x dX0_isDue_8 (by omega) (fun z3 e3 => ?_)
    refine z_if_ne (tgt := 16) hx hb e3 dX0_isDue_9 (by decide) (fun c_4 => ?_) (fun c_4 => ?_)
    · refine lv_iconst (v := (0 : Int32)) hx hb dX0_isDue_16 (by decide) ?_
      exact z_rb (v := (0 : Int32)) hx hb hr hlocks rfl (isB.f rfl (by omega)) dX0_isDue_17
    · refine lv_iconst (v := (1 : Int32)) hx hb dX0_isDue_12 (by decide) ?_
      refine lv_goto (tgt := 17) hx hb dX0_isDue_13 (by decide) ?_
      exact z_rb (v := (1 : Int32)) hx hb hr hlocks rfl (isB.t rfl ⟨by assumption, by assumption⟩) dX0_isDue_17

abbrev rmX0_mendedWithin : Room := { frames := 1, cells := 0, slots := 0, locals := 21 }
theorem hyX0_mendedWithin : yX0_mendedWithin.cls = RX0 ∧ yX0_mendedWithin.cls ≠ "java/lang/invoke/MethodHandle" ∧ yX0_mendedWithin.cls ≠ "java/lang/invoke/VarHandle" ∧ (parseMethodDescriptor yX0_mendedWithin.desc).map (fun d => d.parameters.length) = some 2 := by decide +kernel
set_option maxHeartbeats 4000000 in
set_option maxRecDepth 100000 in
theorem kX0_mendedWithin (l : Launch) (G : xG) (g : Nat) (d : GD) (x : Int32) (a : Int) (e_x : x.toInt = a) (y : Int32) (b : Int) (e_y : y.toInt = b) (ha : -1000000 ≤ a ∧ b ≤ 1000000) : Met l yX0_mendedWithin wsX0_mendedWithin rmX0_mendedWithin (va_Pc [.ref g, .int x, .int y] (zPre G (fun H => GA G H g d))) (zS (fun v => v.toInt = sumZ (fun i => if kindZ d i = 2 then 1 else 0) a (b + 1 - a).toNat)) 0 0 zno := by
  refine z_ofW (cc := cX0_mendedWithin) (maxL := 5) (ret := some .int) (by decide +kernel) rfl (Nat.le_of_ble_eq_true rfl) ?_
  intro p e s m below meth c hx hb hml hr hts hown hlocks hK hP ls hl
  have hG := hP
  have hown : s.vm.findClass RX0 = some m.cls := hown
  have hl : lv_has ls 5 [(0, .ref g), (1, .int x), (2, .int y)] := hl
  have cut5 : ∀ (n5 : Nat), ∀ (x3 : Int32) (i3 : Int) (_ : x3.toInt = i3) (x4 : Int32) (i4 : Int) (_ : x4.toInt = i4), (b + 1 - i4).toNat < n5 → (a ≤ i4 ∧ (i4 ≤ b + 1 ∨ i4 = a)) → (i3 = sumZ (fun i => if kindZ d i = 2 then 1 else 0) a (i4 - a).toNat) → (0 ≤ i3 ∧ i3 ≤ i4 - a) → ∀ ls : Array Slot, lv_has ls 5 [(0, .ref g), (1, .int x), (2, .int y), (3, .int x3), (4, .int x4)] → W p l e rmX0_mendedWithin s m ([.ref g, .int x, .int y] : List Value).toArray below meth c s.heap [] 0 0 (MQ below (zS (fun v => v.toInt = sumZ (fun i => if kindZ d i = 2 then 1 else 0) a (b + 1 - a).toNat)) ([.ref g, .int x, .int y] : List Value).toArray s 0 0 zno) (F0 m 5 ls []) := by
    intro n5
    induction n5 with
    | zero =>
      intro x3 i3 hx3 x4 i4 hx4 hmu5 hi5_0 hi5_1 hi5_2 ls hl
      exact absurd hmu5 (Nat.not_lt_zero _)
    | succ n5 ih5 =>
      intro x3 i3 hx3 x4 i4 hx4 hmu5 hi5_0 hi5_1 hi5_2 ls hl
      refine lv_iload hx hb dX0_mendedWithin_5 (lv_at hl 4 rfl) ?_
      refine lv_iload_n hx hb dX0_mendedWithin_7 rfl (lv_at hl 2 rfl) ?_
      refine z_icmp_gt (tgt := 30) hx hb hx4 e_y dX0_mendedWithin_8 (by decide) (fun c_1 => ?_) (fun c_1 => ?_)
      · refine lv_iload_n hx hb dX0_mendedWithin_30 rfl (lv_at hl 3 rfl) ?_
        exact z_ri (v := x3) hx hb hr hlocks (show x3.toInt = sumZ (fun i => if kindZ d i = 2 then 1 else 0) a (b + 1 - a).toNat from (by rw [hx3, hi5_1]; congr 1; omega)) dX0_mendedWithin_31
      · refine lv_aload_n hx hb dX0_mendedWithin_11 rfl (lv_at hl 0 rfl) ?_
        refine lv_iload hx hb dX0_mendedWithin_12 (lv_at hl 4 rfl) ?_
        refine z_cV (As := [.int x4]) (rest := []) ⟨hx, hb, hml, hown, hts⟩ (kX0_kindAt l G g d x4 i4 hx4) (cwV 1 hts gX0_mendedWithin_X0_kindAt rfl rfl rfl hyX0_kindAt ⟨Nat.le_of_ble_eq_true rfl, Nat.le_of_ble_eq_true rfl⟩) hK hG hG.1 rfl rfl hl.1 rfl (Nat.le_of_ble_eq_true rfl) dX0_mendedWithin_14 ⟨Nat.zero_le _, Nat.zero_le _⟩ (fun z2 e2 => ?_)
        have e2 : z2.toInt = kindZ d i4 := e2
        refine lv_iconst (v := (2 : Int32)) hx hb dX0_mendedWithin_17 (by decide) ?_
        refine z_icmp_ne (tgt := 24) hx hb e2 kI_2 dX0_mendedWithin_18 (by decide) (fun c_3 => ?_) (fun c_3 => ?_)
        · refine z_iinc (k := 4) hx hb dX0_mendedWithin_24 hl rfl hx4 (show (Int32.ofInt 1).toInt = (1 : Int) from rfl) (by omega) (by decide) (fun z4 e4 ls hl => ?_)
          have hl : lv_has ls 5 [(4, .int z4), (0, .ref g), (1, .int x), (2, .int y), (3, .int x3)] := hl
          refine lv_goto (tgt := 5) hx hb dX0_mendedWithin_27 (by decide) ?_
          exact ih5 x3 i3 hx3 z4 (i4 + (1 : Int)) e4 (by omega) (by omega) (by rw [sumZ_s (by omega), if_neg (by assumption)]; omega) (by omega) ls (lv_sub hl [1, 2, 3, 4, 0] rfl)
        · refine z_iinc (k := 3) hx hb dX0_mendedWithin_21 hl rfl hx3 (show (Int32.ofInt 1).toInt = (1 : Int) from rfl) (by omega) (by decide) (fun z5 e5 ls hl => ?_)
          have hl : lv_has ls 5 [(3, .int z5), (0, .ref g), (1, .int x), (2, .int y), (4, .int x4)] := hl
          refine z_iinc (k := 4) hx hb dX0_mendedWithin_24 hl rfl hx4 (show (Int32.ofInt 1).toInt = (1 : Int) from rfl) (by omega) (by decide) (fun z6 e6 ls hl => ?_)
          have hl : lv_has ls 5 [(4, .int z6), (3, .int z5), (0, .ref g), (1, .int x), (2, .int y)] := hl
          refine lv_goto (tgt := 5) hx hb dX0_mendedWithin_27 (by decide) ?_
          exact ih5 z5 (i3 + (1 : Int)) e5 z6 (i4 + (1 : Int)) e6 (by omega) (by omega) (by rw [sumZ_s (by omega), if_pos (by assumption)]; omega) (by omega) ls (lv_sub hl [2, 3, 4, 1, 0] rfl)
  refine lv_iconst (v := (0 : Int32)) hx hb dX0_mendedWithin_0 (by decide) ?_
  refine lv_istore_n hx hb dX0_mendedWithin_1 rfl hl (by decide) rfl (fun ls hl => ?_)
  have hl : lv_has ls 5 [(3, .int (0 : Int32)), (0, .ref g), (1, .int x), (2, .int y)] := hl
  refine lv_iload_n hx hb dX0_mendedWithin_2 rfl (lv_at hl 2 rfl) ?_
  refine lv_istore hx hb dX0_mendedWithin_3 hl (by decide) rfl (fun ls hl => ?_)
  have hl : lv_has ls 5 [(4, .int x), (3, .int (0 : Int32)), (0, .ref g), (1, .int x), (2, .int y)] := hl
  exact cut5 (((b + 1 - a).toNat) + 1) (0 : Int32) (0 : Int) kI_0 x a e_x (Nat.lt_succ_self _) (by omega) (by rw [sumZ_0 (by omega)]) (by omega) ls (lv_sub hl [2, 3, 4, 1, 0] rfl)

abbrev rmX0_riseAt : Room := { frames := 2, cells := 0, slots := 0, locals := 42 }
theorem hyX0_riseAt : yX0_riseAt.cls = RX0 ∧ yX0_riseAt.cls ≠ "java/lang/invoke/MethodHandle" ∧ yX0_riseAt.cls ≠ "java/lang/invoke/VarHandle" ∧ (parseMethodDescriptor yX0_riseAt.desc).map (fun d => d.parameters.length) = some 1 := by decide +kernel
set_option maxHeartbeats 4000000 in
set_option maxRecDepth 100000 in
theorem kX0_riseAt (l : Launch) (G : xG) (g : Nat) (d : GD) (x : Int32) (h : Int) (e_x : x.toInt = h) (hsm : smallG d) (hh : -1000000 ≤ h ∧ h ≤ 1000000) : Met l yX0_riseAt wsX0_riseAt rmX0_riseAt (va_Pc [.ref g, .int x] (zPre G (fun H => GA G H g d))) (zS (fun v => v.toInt = riseZ d h)) 0 0 zno := by
  refine z_ofW (cc := cX0_riseAt) (maxL := 2) (ret := some .int) (by decide +kernel) rfl (Nat.le_of_ble_eq_true rfl) ?_
  intro p e s m below meth c hx hb hml hr hts hown hlocks hK hP ls hl
  have hG := hP
  have hown : s.vm.findClass RX0 = some m.cls := hown
  have hl : lv_has ls 2 [(0, .ref g), (1, .int x)] := hl
  have hq1 := hsm.cord h
  have hq2 := hsm.cord (h - 1)
  refine lv_aload_n hx hb dX0_riseAt_0 rfl (lv_at hl 0 rfl) ?_
  refine lv_iload_n hx hb dX0_riseAt_1 rfl (lv_at hl 1 rfl) ?_
  refine z_cV (As := [.int x]) (rest := []) ⟨hx, hb, hml, hown, hts⟩ (kX0_correctedAt l G g d x h e_x (by first | assumption | omega)) (cwV 1 hts gX0_riseAt_X0_correctedAt rfl rfl rfl hyX0_correctedAt ⟨Nat.le_of_ble_eq_true rfl, Nat.le_of_ble_eq_true rfl⟩) hK hG hG.1 rfl rfl hl.1 rfl (Nat.le_of_ble_eq_true rfl) dX0_riseAt_2 ⟨Nat.zero_le _, Nat.zero_le _⟩ (fun z1 e1 => ?_)
  have e1 : z1.toInt = cordZ d h := e1
  refine lv_aload_n hx hb dX0_riseAt_5 rfl (lv_at hl 0 rfl) ?_
  refine lv_iload_n hx hb dX0_riseAt_6 rfl (lv_at hl 1 rfl) ?_
  refine lv_iconst (v := (1 : Int32)) hx hb dX0_riseAt_7 (by decide) ?_
  refine z_isub hx hb e_x kI_1 dX0_riseAt_8 (by omega) (fun z2 e2 => ?_)
  refine z_cV (As := [.int z2]) (rest := [.int z1]) ⟨hx, hb, hml, hown, hts⟩ (kX0_correctedAt l G g d z2 (h - (1 : Int)) e2 (by first | assumption | omega)) (cwV 1 hts gX0_riseAt_X0_correctedAt rfl rfl rfl hyX0_correctedAt ⟨Nat.le_of_ble_eq_true rfl, Nat.le_of_ble_eq_true rfl⟩) hK hG hG.1 rfl rfl hl.1 rfl (Nat.le_of_ble_eq_true rfl) dX0_riseAt_9 ⟨Nat.zero_le _, Nat.zero_le _⟩ (fun z3 e3 => ?_)
  have e3 : z3.toInt = cordZ d (h - (1 : Int)) := e3
  refine z_isub hx hb e1 e3 dX0_riseAt_12 (by omega) (fun z4 e4 => ?_)
  exact z_ri (v := z4) hx hb hr hlocks (show z4.toInt = riseZ d h from (by unfold riseZ; omega)) dX0_riseAt_13

abbrev rmX0_misfitWithin : Room := { frames := 3, cells := 0, slots := 0, locals := 65 }
theorem mlX0_misfitWithin_140 : (Cond.methodLink RX0 140 Lib.Math.abs.name ∈ wsX0_misfitWithin) ∧ (Cond.static Lib.Math.abs.name ∈ wsX0_misfitWithin) ∧ (Cond.initialized "java/lang/Math" ∈ wsX0_misfitWithin) ∧ (Cond.code Lib.Math.abs.name Lib.Math.abs.code 1 (some .int) ∈ wsX0_misfitWithin) := by decide +kernel
theorem hyX0_misfitWithin : yX0_misfitWithin.cls = RX0 ∧ yX0_misfitWithin.cls ≠ "java/lang/invoke/MethodHandle" ∧ yX0_misfitWithin.cls ≠ "java/lang/invoke/VarHandle" ∧ (parseMethodDescriptor yX0_misfitWithin.desc).map (fun d => d.parameters.length) = some 4 := by decide +kernel
set_option maxHeartbeats 4000000 in
set_option maxRecDepth 100000 in
theorem kX0_misfitWithin (l : Launch) (G : xG) (g : Nat) (d : GD) (o : Nat) (u : GD) (x : Int32) (a : Int) (e_x : x.toInt = a) (y : Int32) (b : Int) (e_y : y.toInt = b) (z : Int32) (f : Int) (e_z : z.toInt = f) (hsm : smallG d) (hso : smallG u) (ha : -1000 ≤ a ∧ b ≤ 1000 ∧ b ≤ a + 20 ∧ -1000 ≤ f ∧ f ≤ 1000) : Met l yX0_misfitWithin wsX0_misfitWithin rmX0_misfitWithin (va_Pc [.ref g, .int x, .int y, .ref o, .int z] (zPre G (fun H => GA G H g d ∧ GA G H o u))) (zS (fun v => v.toInt = sumZ (mfT d u f) a (b + 1 - a).toNat)) 0 0 zno := by
  refine z_ofW (cc := cX0_misfitWithin) (maxL := 7) (ret := some .int) (by decide +kernel) rfl (Nat.le_of_ble_eq_true rfl) ?_
  intro p e s m below meth c hx hb hml hr hts hown hlocks hK hP ls hl
  obtain ⟨hG, hO⟩ := hP
  have hown : s.vm.findClass RX0 = some m.cls := hown
  have hl : lv_has ls 7 [(0, .ref g), (1, .int x), (2, .int y), (3, .ref o), (4, .int z)] := hl
  have cut6 : ∀ (n6 : Nat), ∀ (x5 : Int32) (i5 : Int) (_ : x5.toInt = i5) (x6 : Int32) (i6 : Int) (_ : x6.toInt = i6), (b + 1 - i6).toNat < n6 → (a ≤ i6 ∧ (i6 ≤ b + 1 ∨ i6 = a)) → (i5 = sumZ (mfT d u f) a (i6 - a).toNat) → (0 ≤ i5 ∧ i5 ≤ 4004000 * (i6 - a)) → ∀ ls : Array Slot, lv_has ls 7 [(0, .ref g), (1, .int x), (2, .int y), (3, .ref o), (4, .int z), (5, .int x5), (6, .int x6)] → W p l e rmX0_misfitWithin s m ([.ref g, .int x, .int y, .ref o, .int z] : List Value).toArray below meth c s.heap [] 0 0 (MQ below (zS (fun v => v.toInt = sumZ (mfT d u f) a (b + 1 - a).toNat)) ([.ref g, .int x, .int y, .ref o, .int z] : List Value).toArray s 0 0 zno) (F0 m 6 ls []) := by
    intro n6
    induction n6 with
    | zero =>
      intro x5 i5 hx5 x6 i6 hx6 hmu6 hi6_0 hi6_1 hi6_2 ls hl
      exact absurd hmu6 (Nat.not_lt_zero _)
    | succ n6 ih6 =>
      intro x5 i5 hx5 x6 i6 hx6 hmu6 hi6_0 hi6_1 hi6_2 ls hl
      have hr1 := hsm.rise i6
      have hr2 := hso.rise (i6 + f)
      have hm := mfT_b hsm hso f i6
      refine lv_iload hx hb dX0_misfitWithin_6 (lv_at hl 6 rfl) ?_
      refine lv_iload_n hx hb dX0_misfitWithin_8 rfl (lv_at hl 2 rfl) ?_
      refine z_icmp_gt (tgt := 74) hx hb hx6 e_y dX0_misfitWithin_9 (by decide) (fun c_1 => ?_) (fun c_1 => ?_)
      · refine lv_iload hx hb dX0_misfitWithin_74 (lv_at hl 5 rfl) ?_
        exact z_ri (v := x5) hx hb hr hlocks (show x5.toInt = sumZ (mfT d u f) a (b + 1 - a).toNat from (by rw [hx5, hi6_1]; congr 1; omega)) dX0_misfitWithin_76
      · refine lv_aload_n hx hb dX0_misfitWithin_12 rfl (lv_at hl 0 rfl) ?_
        refine lv_iload hx hb dX0_misfitWithin_13 (lv_at hl 6 rfl) ?_
        refine lv_iconst (v := (1 : Int32)) hx hb dX0_misfitWithin_15 (by decide) ?_
        refine z_isub hx hb hx6 kI_1 dX0_misfitWithin_16 (by omega) (fun z2 e2 => ?_)
        refine lv_iload hx hb dX0_misfitWithin_17 (lv_at hl 6 rfl) ?_
        refine z_cV (As := [.int z2, .int x6]) (rest := []) ⟨hx, hb, hml, hown, hts⟩ (kX0_hasReadings l G g d z2 (i6 - (1 : Int)) e2 x6 i6 hx6 (by first | assumption | omega)) (cwV 2 hts gX0_misfitWithin_X0_hasReadings rfl rfl rfl hyX0_hasReadings ⟨Nat.le_of_ble_eq_true rfl, Nat.le_of_ble_eq_true rfl⟩) hK hG hG.1 rfl rfl hl.1 rfl (Nat.le_of_ble_eq_true rfl) dX0_misfitWithin_19 ⟨Nat.zero_le _, Nat.zero_le _⟩ (fun z3 e3 => ?_)
        have e3 : isB z3 (∀ j : Int, (i6 - (1 : Int)) ≤ j → j ≤ i6 → kindZ d j = 0) := e3
        refine z_ifb_eq (tgt := 68) hx hb e3 dX0_misfitWithin_22 (by decide) (fun c_4 => ?_) (fun c_4 => ?_)
        · have ht := mfT_f1 (o := u) (f := f) c_4
          refine z_iinc (k := 6) hx hb dX0_misfitWithin_68 hl rfl hx6 (show (Int32.ofInt 1).toInt = (1 : Int) from rfl) (by omega) (by decide) (fun z5 e5 ls hl => ?_)
          have hl : lv_has ls 7 [(6, .int z5), (0, .ref g), (1, .int x), (2, .int y), (3, .ref o), (4, .int z), (5, .int x5)] := hl
          refine lv_goto (tgt := 6) hx hb dX0_misfitWithin_71 (by decide) ?_
          exact ih6 x5 i5 hx5 z5 (i6 + (1 : Int)) e5 (by omega) (by omega) (by rw [sumZ_s (by omega), ht]; omega) (by omega) ls (lv_sub hl [1, 2, 3, 4, 5, 6, 0] rfl)
        · have hA := c_4
          refine lv_aload_n hx hb dX0_misfitWithin_25 rfl (lv_at hl 3 rfl) ?_
          refine lv_iload hx hb dX0_misfitWithin_26 (lv_at hl 6 rfl) ?_
          refine lv_iload hx hb dX0_misfitWithin_28 (lv_at hl 4 rfl) ?_
          refine z_iadd hx hb hx6 e_z dX0_misfitWithin_30 (by omega) (fun z6 e6 => ?_)
          refine lv_iconst (v := (1 : Int32)) hx hb dX0_misfitWithin_31 (by decide) ?_
          refine z_isub hx hb e6 kI_1 dX0_misfitWithin_32 (by omega) (fun z7 e7 => ?_)
          refine lv_iload hx hb dX0_misfitWithin_33 (lv_at hl 6 rfl) ?_
          refine lv_iload hx hb dX0_misfitWithin_35 (lv_at hl 4 rfl) ?_
          refine z_iadd hx hb hx6 e_z dX0_misfitWithin_37 (by omega) (fun z8 e8 => ?_)
          refine z_cV (As := [.int z7, .int z8]) (rest := []) ⟨hx, hb, hml, hown, hts⟩ (kX0_hasReadings l G o u z7 ((i6 + f) - (1 : Int)) e7 z8 (i6 + f) e8 (by first | assumption | omega)) (cwV 2 hts gX0_misfitWithin_X0_hasReadings rfl rfl rfl hyX0_hasReadings ⟨Nat.le_of_ble_eq_true rfl, Nat.le_of_ble_eq_true rfl⟩) hK hO hO.1 rfl rfl hl.1 rfl (Nat.le_of_ble_eq_true rfl) dX0_misfitWithin_38 ⟨Nat.zero_le _, Nat.zero_le _⟩ (fun z9 e9 => ?_)
          have e9 : isB z9 (∀ j : Int, ((i6 + f) - (1 : Int)) ≤ j → j ≤ (i6 + f) → kindZ u j = 0) := e9
          refine z_ifb_eq (tgt := 68) hx hb e9 dX0_misfitWithin_41 (by decide) (fun c_10 => ?_) (fun c_10 => ?_)
          · have ht := mfT_f2 (d := d) c_10
            refine z_iinc (k := 6) hx hb dX0_misfitWithin_68 hl rfl hx6 (show (Int32.ofInt 1).toInt = (1 : Int) from rfl) (by omega) (by decide) (fun z11 e11 ls hl => ?_)
            have hl : lv_has ls 7 [(6, .int z11), (0, .ref g), (1, .int x), (2, .int y), (3, .ref o), (4, .int z), (5, .int x5)] := hl
            refine lv_goto (tgt := 6) hx hb dX0_misfitWithin_71 (by decide) ?_
            exact ih6 x5 i5 hx5 z11 (i6 + (1 : Int)) e11 (by omega) (by omega) (by rw [sumZ_s (by omega), ht]; omega) (by omega) ls (lv_sub hl [1, 2, 3, 4, 5, 6, 0] rfl)
          · have ht := mfT_t hA c_10
            refine lv_iload hx hb dX0_misfitWithin_44 (lv_at hl 5 rfl) ?_
            refine lv_aload_n hx hb dX0_misfitWithin_46 rfl (lv_at hl 0 rfl) ?_
            refine lv_iload hx hb dX0_misfitWithin_47 (lv_at hl 6 rfl) ?_
            refine z_cV (As := [.int x6]) (rest := [.int x5]) ⟨hx, hb, hml, hown, hts⟩ (kX0_riseAt l G g d x6 i6 hx6 (by first | assumption | omega) (by first | assumption | omega)) (cwV 1 hts gX0_misfitWithin_X0_riseAt rfl rfl rfl hyX0_riseAt ⟨Nat.le_of_ble_eq_true rfl, Nat.le_of_ble_eq_true rfl⟩) hK hG hG.1 rfl rfl hl.1 rfl (Nat.le_of_ble_eq_true rfl) dX0_misfitWithin_49 ⟨Nat.zero_le _, Nat.zero_le _⟩ (fun z12 e12 => ?_)
            have e12 : z12.toInt = riseZ d i6 := e12
            refine lv_aload_n hx hb dX0_misfitWithin_52 rfl (lv_at hl 3 rfl) ?_
            refine lv_iload hx hb dX0_misfitWithin_53 (lv_at hl 6 rfl) ?_
            refine lv_iload hx hb dX0_misfitWithin_55 (lv_at hl 4 rfl) ?_
            refine z_iadd hx hb hx6 e_z dX0_misfitWithin_57 (by omega) (fun z13 e13 => ?_)
            refine z_cV (As := [.int z13]) (rest := [.int z12, .int x5]) ⟨hx, hb, hml, hown, hts⟩ (kX0_riseAt l G o u z13 (i6 + f) e13 (by first | assumption | omega) (by first | assumption | omega)) (cwV 1 hts gX0_misfitWithin_X0_riseAt rfl rfl rfl hyX0_riseAt ⟨Nat.le_of_ble_eq_true rfl, Nat.le_of_ble_eq_true rfl⟩) hK hO hO.1 rfl rfl hl.1 rfl (Nat.le_of_ble_eq_true rfl) dX0_misfitWithin_58 ⟨Nat.zero_le _, Nat.zero_le _⟩ (fun z14 e14 => ?_)
            have e14 : z14.toInt = riseZ u (i6 + f) := e14
            refine z_isub hx hb e12 e14 dX0_misfitWithin_61 (by omega) (fun z15 e15 => ?_)
            refine z_mabs hx hb (hml.trans hl.1.symm) hown (hts _ mlX0_misfitWithin_140.1) (hts _ mlX0_misfitWithin_140.2.1) (hts _ mlX0_misfitWithin_140.2.2.1) (hts _ mlX0_misfitWithin_140.2.2.2) (Nat.le_of_ble_eq_true rfl) (Nat.le_of_ble_eq_true rfl) (Nat.zero_le _) (Nat.zero_le _) e15 (by omega) dX0_misfitWithin_62 (fun z16 e16 => ?_)
            refine z_iadd hx hb hx5 e16 dX0_misfitWithin_65 (by omega) (fun z17 e17 => ?_)
            refine lv_istore hx hb dX0_misfitWithin_66 hl (by decide) rfl (fun ls hl => ?_)
            have hl : lv_has ls 7 [(5, .int z17), (0, .ref g), (1, .int x), (2, .int y), (3, .ref o), (4, .int z), (6, .int x6)] := hl
            refine z_iinc (k := 6) hx hb dX0_misfitWithin_68 hl rfl hx6 (show (Int32.ofInt 1).toInt = (1 : Int) from rfl) (by omega) (by decide) (fun z18 e18 ls hl => ?_)
            have hl : lv_has ls 7 [(6, .int z18), (5, .int z17), (0, .ref g), (1, .int x), (2, .int y), (3, .ref o), (4, .int z)] := hl
            refine lv_goto (tgt := 6) hx hb dX0_misfitWithin_71 (by decide) ?_
            exact ih6 z17 (i5 + (abz ((riseZ d i6) - (riseZ u (i6 + f))))) e17 z18 (i6 + (1 : Int)) e18 (by omega) (by omega) (by rw [sumZ_s (by omega), ht]; omega) (by omega) ls (lv_sub hl [2, 3, 4, 5, 6, 1, 0] rfl)
  refine lv_iconst (v := (0 : Int32)) hx hb dX0_misfitWithin_0 (by decide) ?_
  refine lv_istore hx hb dX0_misfitWithin_1 hl (by decide) rfl (fun ls hl => ?_)
  have hl : lv_has ls 7 [(5, .int (0 : Int32)), (0, .ref g), (1, .int x), (2, .int y), (3, .ref o), (4, .int z)] := hl
  refine lv_iload_n hx hb dX0_misfitWithin_3 rfl (lv_at hl 2 rfl) ?_
  refine lv_istore hx hb dX0_misfitWithin_4 hl (by decide) rfl (fun ls hl => ?_)
  have hl : lv_has ls 7 [(6, .int x), (5, .int (0 : Int32)), (0, .ref g), (1, .int x), (2, .int y), (3, .ref o), (4, .int z)] := hl
  exact cut6 (((b + 1 - a).toNat) + 1) (0 : Int32) (0 : Int) kI_0 x a e_x (Nat.lt_succ_self _) (by omega) (by rw [sumZ_0 (by omega)]) (by omega) ls (lv_sub hl [2, 3, 4, 5, 6, 1, 0] rfl)

abbrev rmX0_misfitAround : Room := { frames := 4, cells := 0, slots := 0, locals := 91 }
theorem hyX0_misfitAround : yX0_misfitAround.cls = RX0 ∧ yX0_misfitAround.cls ≠ "java/lang/invoke/MethodHandle" ∧ yX0_misfitAround.cls ≠ "java/lang/invoke/VarHandle" ∧ (parseMethodDescriptor yX0_misfitAround.desc).map (fun d => d.parameters.length) = some 4 := by decide +kernel
set_option maxHeartbeats 4000000 in
set_option maxRecDepth 100000 in
theorem kX0_misfitAround (l : Launch) (G : xG) (g : Nat) (d : GD) (o : Nat) (u : GD) (x : Int32) (a : Int) (e_x : x.toInt = a) (y : Int32) (b : Int) (e_y : y.toInt = b) (z : Int32) (f : Int) (e_z : z.toInt = f) (hsm : smallG d) (hso : smallG u) (ha : -500 ≤ a ∧ a ≤ 500 ∧ -500 ≤ b ∧ b ≤ 500 ∧ -500 ≤ f ∧ f ≤ 500) : Met l yX0_misfitAround wsX0_misfitAround rmX0_misfitAround (va_Pc [.ref g, .int x, .int y, .ref o, .int z] (zPre G (fun H => GA G H g d ∧ GA G H o u))) (zS (fun v => v.toInt = sumZ (mfT d u f) (a - 11) 12 + sumZ (mfT d u f) (b + 1) 12)) 0 0 zno := by
  refine z_ofW (cc := cX0_misfitAround) (maxL := 5) (ret := some .int) (by decide +kernel) rfl (Nat.le_of_ble_eq_true rfl) ?_
  intro p e s m below meth c hx hb hml hr hts hown hlocks hK hP ls hl
  obtain ⟨hG, hO⟩ := hP
  have hown : s.vm.findClass RX0 = some m.cls := hown
  have hl : lv_has ls 5 [(0, .ref g), (1, .int x), (2, .int y), (3, .ref o), (4, .int z)] := hl
  have hb1 := sumZ_b (f := mfT d u f) (lo := 0) (hi := 4004000) (by omega) (by omega) (mfT_b hsm hso f)
  have hb2 := hb1 (a - 11) 12
  have hb3 := hb1 (b + 1) 12
  refine lv_aload_n hx hb dX0_misfitAround_0 rfl (lv_at hl 0 rfl) ?_
  refine lv_iload_n hx hb dX0_misfitAround_1 rfl (lv_at hl 1 rfl) ?_
  refine lv_bipush (v := (12 : Int32)) hx hb dX0_misfitAround_2 (by decide) ?_
  refine z_isub hx hb e_x kI_12 dX0_misfitAround_4 (by omega) (fun z1 e1 => ?_)
  refine lv_iconst (v := (1 : Int32)) hx hb dX0_misfitAround_5 (by decide) ?_
  refine z_iadd hx hb e1 kI_1 dX0_misfitAround_6 (by omega) (fun z2 e2 => ?_)
  refine lv_iload_n hx hb dX0_misfitAround_7 rfl (lv_at hl 1 rfl) ?_
  refine lv_aload_n hx hb dX0_misfitAround_8 rfl (lv_at hl 3 rfl) ?_
  refine lv_iload hx hb dX0_misfitAround_9 (lv_at hl 4 rfl) ?_
  refine z_cV (As := [.int z2, .int x, .ref o, .int z]) (rest := []) ⟨hx, hb, hml, hown, hts⟩ (kX0_misfitWithin l G g d o u z2 ((a - (12 : Int)) + (1 : Int)) e2 x a e_x z f e_z (by first | assumption | omega) (by first | assumption | omega) (by first | assumption | omega)) (cwV 4 hts gX0_misfitAround_X0_misfitWithin rfl rfl rfl hyX0_misfitWithin ⟨Nat.le_of_ble_eq_true rfl, Nat.le_of_ble_eq_true rfl⟩) hK ⟨hG, hO⟩ hG.1 rfl rfl hl.1 rfl (Nat.le_of_ble_eq_true rfl) dX0_misfitAround_11 ⟨Nat.zero_le _, Nat.zero_le _⟩ (fun z3 e3 => ?_)
  have e3 : z3.toInt = sumZ (mfT d u f) ((a - (12 : Int)) + (1 : Int)) (a + 1 - ((a - (12 : Int)) + (1 : Int))).toNat := e3
  have e3 : z3.toInt = sumZ (mfT d u f) (a - 11) 12 := by rw [e3]; congr 1 <;> omega
  refine lv_aload_n hx hb dX0_misfitAround_14 rfl (lv_at hl 0 rfl) ?_
  refine lv_iload_n hx hb dX0_misfitAround_15 rfl (lv_at hl 2 rfl) ?_
  refine lv_iconst (v := (1 : Int32)) hx hb dX0_misfitAround_16 (by decide) ?_
  refine z_iadd hx hb e_y kI_1 dX0_misfitAround_17 (by omega) (fun z4 e4 => ?_)
  refine lv_iload_n hx hb dX0_misfitAround_18 rfl (lv_at hl 2 rfl) ?_
  refine lv_bipush (v := (12 : Int32)) hx hb dX0_misfitAround_19 (by decide) ?_
  refine z_iadd hx hb e_y kI_12 dX0_misfitAround_21 (by omega) (fun z5 e5 => ?_)
  refine lv_aload_n hx hb dX0_misfitAround_22 rfl (lv_at hl 3 rfl) ?_
  refine lv_iload hx hb dX0_misfitAround_23 (lv_at hl 4 rfl) ?_
  refine z_cV (As := [.int z4, .int z5, .ref o, .int z]) (rest := [.int z3]) ⟨hx, hb, hml, hown, hts⟩ (kX0_misfitWithin l G g d o u z4 (b + (1 : Int)) e4 z5 (b + (12 : Int)) e5 z f e_z (by first | assumption | omega) (by first | assumption | omega) (by first | assumption | omega)) (cwV 4 hts gX0_misfitAround_X0_misfitWithin rfl rfl rfl hyX0_misfitWithin ⟨Nat.le_of_ble_eq_true rfl, Nat.le_of_ble_eq_true rfl⟩) hK ⟨hG, hO⟩ hG.1 rfl rfl hl.1 rfl (Nat.le_of_ble_eq_true rfl) dX0_misfitAround_25 ⟨Nat.zero_le _, Nat.zero_le _⟩ (fun z6 e6 => ?_)
  have e6 : z6.toInt = sumZ (mfT d u f) (b + (1 : Int)) ((b + (12 : Int)) + 1 - (b + (1 : Int))).toNat := e6
  have e6 : z6.toInt = sumZ (mfT d u f) (b + 1) 12 := by rw [e6]; congr 1 <;> omega
  refine z_iadd hx hb e3 e6 dX0_misfitAround_28 (by omega) (fun z7 e7 => ?_)
  exact z_ri (v := z7) hx hb hr hlocks (show z7.toInt = sumZ (mfT d u f) (a - 11) 12 + sumZ (mfT d u f) (b + 1) 12 from (by first | rfl | omega)) dX0_misfitAround_29

abbrev rmX3_heightAt : Room := { frames := 1, cells := 0, slots := 0, locals := 22 }
theorem iwX3_heightAt_3 : ∀ w ∈ wsX30, w ∈ wsX3_heightAt := fun _ h => List.mem_cons_of_mem _ (List.mem_append_right _ h)
theorem flX3_heightAt_13 : Cond.fieldLink RX3 13 "SiltedFloats$Wave" "amplitude" "I" ∈ wsX3_heightAt := by decide +kernel
theorem flX3_heightAt_17 : Cond.fieldLink RX3 17 "SiltedFloats$Wave" "period" "I" ∈ wsX3_heightAt := by decide +kernel
theorem flX3_heightAt_20 : Cond.fieldLink RX3 20 "SiltedFloats$Wave" "phase" "I" ∈ wsX3_heightAt := by decide +kernel
theorem hyX3_heightAt : yX3_heightAt.cls = RX3 ∧ yX3_heightAt.cls ≠ "java/lang/invoke/MethodHandle" ∧ yX3_heightAt.cls ≠ "java/lang/invoke/VarHandle" ∧ (parseMethodDescriptor yX3_heightAt.desc).map (fun d => d.parameters.length) = some 1 := by decide +kernel
set_option maxHeartbeats 4000000 in
set_option maxRecDepth 100000 in
theorem kX3_heightAt (l : Launch) (G : xG) (w : Nat) (v0 : Nat → Int32) (x : Int32) (h : Int) (e_x : x.toInt = h) (hv : waveOk v0) (hh : -1000 ≤ h ∧ h ≤ 1000) : Met l yX3_heightAt wsX3_heightAt rmX3_heightAt (va_Pc [.ref w, .int x] (zPre G (fun H => WV G H w v0))) (zS (fun v => v.toInt = waveZ v0 h)) 0 0 zno := by
  refine z_ofW (cc := cX3_heightAt) (maxL := 4) (ret := some .int) (by decide +kernel) rfl (Nat.le_of_ble_eq_true rfl) ?_
  intro p e s m below meth c hx hb hml hr hts hown hlocks hK hP ls hl
  have hV := hP
  have hown : s.vm.findClass RX3 = some m.cls := hown
  have hl : lv_has ls 4 [(0, .ref w), (1, .int x)] := hl
  obtain ⟨hv1, hv2, hv3⟩ := id hv
  obtain ⟨hq1, hq2, hq3⟩ := hgtZ_b (F := (v0 2).toInt) hv1 hv2 h
  refine lv_aload_n hx hb dX3_heightAt_0 rfl (lv_at hl 0 rfl) ?_
  refine z_get hx hb hts iwX3_heightAt_3 hown hK hV rfl 1 (by decide) flX3_heightAt_17 rfl (v := .int (v0 1)) rfl dX3_heightAt_1 ?_
  refine z_if_gt (tgt := 9) hx hb rfl dX3_heightAt_4 (by decide) (fun c_1 => ?_) (fun c_1 => ?_)
  · refine lv_iload_n hx hb dX3_heightAt_9 rfl (lv_at hl 1 rfl) ?_
    refine lv_aload_n hx hb dX3_heightAt_10 rfl (lv_at hl 0 rfl) ?_
    refine z_get hx hb hts iwX3_heightAt_3 hown hK hV rfl 2 (by decide) flX3_heightAt_20 rfl (v := .int (v0 2)) rfl dX3_heightAt_11 ?_
    refine z_iadd hx hb e_x rfl dX3_heightAt_14 (by omega) (fun z2 e2 => ?_)
    refine lv_aload_n hx hb dX3_heightAt_15 rfl (lv_at hl 0 rfl) ?_
    refine z_get hx hb hts iwX3_heightAt_3 hown hK hV rfl 1 (by decide) flX3_heightAt_17 rfl (v := .int (v0 1)) rfl dX3_heightAt_16 ?_
    refine z_cS (As := [.int z2, .int (v0 1)]) (rest := []) ⟨hx, hb, hml, hown, hts⟩ (kJ9_floorMod_7cf53 l G z2 (h + ((v0 2).toInt)) e2 (v0 1) ((v0 1).toInt) rfl (by first | assumption | omega)) (va_cwS 2 hts gX3_heightAt_J9_floorMod_7cf53 rfl rfl rfl hyJ9_floorMod_7cf53 ⟨Nat.le_of_ble_eq_true rfl, Nat.le_of_ble_eq_true rfl⟩) hK trivial rfl hl.1 rfl (Nat.le_of_ble_eq_true rfl) dX3_heightAt_19 ⟨Nat.zero_le _, Nat.zero_le _⟩ (fun z3 e3 => ?_)
    have e3 : z3.toInt = (h + ((v0 2).toInt)) % ((v0 1).toInt) := e3
    refine lv_istore_n hx hb dX3_heightAt_22 rfl hl (by decide) rfl (fun ls hl => ?_)
    have hl : lv_has ls 4 [(2, .int z3), (0, .ref w), (1, .int x)] := hl
    refine lv_iconst (v := (4 : Int32)) hx hb dX3_heightAt_23 (by decide) ?_
    refine lv_aload_n hx hb dX3_heightAt_24 rfl (lv_at hl 1 rfl) ?_
    refine z_get hx hb hts iwX3_heightAt_3 hown hK hV rfl 0 (by decide) flX3_heightAt_13 rfl (v := .int (v0 0)) rfl dX3_heightAt_25 ?_
    refine z_imul hx hb kI_4 rfl dX3_heightAt_28 (by omega) (fun z4 e4 => ?_)
    refine lv_iload_n hx hb dX3_heightAt_29 rfl (lv_at hl 0 rfl) ?_
    refine z_imul hx hb e4 e3 dX3_heightAt_30 (by omega) (fun z5 e5 => ?_)
    refine lv_aload_n hx hb dX3_heightAt_31 rfl (lv_at hl 1 rfl) ?_
    refine z_get hx hb hts iwX3_heightAt_3 hown hK hV rfl 1 (by decide) flX3_heightAt_17 rfl (v := .int (v0 1)) rfl dX3_heightAt_32 ?_
    refine z_cS (As := [.int z5, .int (v0 1)]) (rest := []) ⟨hx, hb, hml, hown, hts⟩ (kJ9_floorDiv_7cf53 l G z5 (((4 : Int) * ((v0 0).toInt)) * ((h + ((v0 2).toInt)) % ((v0 1).toInt))) e5 (v0 1) ((v0 1).toInt) rfl (by first | assumption | omega)) (va_cwS 2 hts gX3_heightAt_J9_floorDiv_7cf53 rfl rfl rfl hyJ9_floorDiv_7cf53 ⟨Nat.le_of_ble_eq_true rfl, Nat.le_of_ble_eq_true rfl⟩) hK trivial rfl hl.1 rfl (Nat.le_of_ble_eq_true rfl) dX3_heightAt_35 ⟨Nat.zero_le _, Nat.zero_le _⟩ (fun z6 e6 => ?_)
    have e6 : z6.toInt = (((4 : Int) * ((v0 0).toInt)) * ((h + ((v0 2).toInt)) % ((v0 1).toInt))) / ((v0 1).toInt) := e6
    refine lv_istore_n hx hb dX3_heightAt_38 rfl hl (by decide) rfl (fun ls hl => ?_)
    have hl : lv_has ls 4 [(3, .int z6), (2, .int z3), (0, .ref w), (1, .int x)] := hl
    refine lv_iconst (v := (2 : Int32)) hx hb dX3_heightAt_39 (by decide) ?_
    refine lv_iload_n hx hb dX3_heightAt_40 rfl (lv_at hl 1 rfl) ?_
    refine z_imul hx hb kI_2 e3 dX3_heightAt_41 (by omega) (fun z7 e7 => ?_)
    refine lv_aload_n hx hb dX3_heightAt_42 rfl (lv_at hl 2 rfl) ?_
    refine z_get hx hb hts iwX3_heightAt_3 hown hK hV rfl 1 (by decide) flX3_heightAt_17 rfl (v := .int (v0 1)) rfl dX3_heightAt_43 ?_
    refine z_icmp_gt (tgt := 58) hx hb e7 rfl dX3_heightAt_46 (by decide) (fun c_8 => ?_) (fun c_8 => ?_)
    · refine lv_iconst (v := (3 : Int32)) hx hb dX3_heightAt_58 (by decide) ?_
      refine lv_aload_n hx hb dX3_heightAt_59 rfl (lv_at hl 2 rfl) ?_
      refine z_get hx hb hts iwX3_heightAt_3 hown hK hV rfl 0 (by decide) flX3_heightAt_13 rfl (v := .int (v0 0)) rfl dX3_heightAt_60 ?_
      refine z_imul hx hb kI_3 rfl dX3_heightAt_63 (by omega) (fun z9 e9 => ?_)
      refine lv_iload_n hx hb dX3_heightAt_64 rfl (lv_at hl 0 rfl) ?_
      refine z_isub hx hb e9 e6 dX3_heightAt_65 (by omega) (fun z10 e10 => ?_)
      exact z_ri (v := z10) hx hb hr hlocks (show z10.toInt = waveZ v0 h from (by rw [e10]; unfold waveZ hgtZ; rw [if_neg (by omega)])) dX3_heightAt_66
    · refine lv_iload_n hx hb dX3_heightAt_49 rfl (lv_at hl 0 rfl) ?_
      refine lv_aload_n hx hb dX3_heightAt_50 rfl (lv_at hl 2 rfl) ?_
      refine z_get hx hb hts iwX3_heightAt_3 hown hK hV rfl 0 (by decide) flX3_heightAt_13 rfl (v := .int (v0 0)) rfl dX3_heightAt_51 ?_
      refine z_isub hx hb e6 rfl dX3_heightAt_54 (by omega) (fun z11 e11 => ?_)
      refine lv_goto (tgt := 66) hx hb dX3_heightAt_55 (by decide) ?_
      exact z_ri (v := z11) hx hb hr hlocks (show z11.toInt = waveZ v0 h from (by rw [e11]; unfold waveZ hgtZ; rw [if_pos (by omega)])) dX3_heightAt_66
  · refine lv_iconst (v := (0 : Int32)) hx hb dX3_heightAt_7 (by decide) ?_
    exact z_ri (v := (0 : Int32)) hx hb hr hlocks (show (0 : Int32).toInt = waveZ v0 h from (by omega)) dX3_heightAt_8

abbrev rmX3_isSo : Room := { frames := 0, cells := 0, slots := 0, locals := 0 }
theorem iwX3_isSo_3 : ∀ w ∈ wsX30, w ∈ wsX3_isSo := fun _ h => List.mem_cons_of_mem _ (List.mem_append_right _ h)
theorem flX3_isSo_13 : Cond.fieldLink RX3 13 "SiltedFloats$Wave" "amplitude" "I" ∈ wsX3_isSo := by decide +kernel
theorem flX3_isSo_17 : Cond.fieldLink RX3 17 "SiltedFloats$Wave" "period" "I" ∈ wsX3_isSo := by decide +kernel
theorem flX3_isSo_20 : Cond.fieldLink RX3 20 "SiltedFloats$Wave" "phase" "I" ∈ wsX3_isSo := by decide +kernel
theorem hyX3_isSo : yX3_isSo.cls = RX3 ∧ yX3_isSo.cls ≠ "java/lang/invoke/MethodHandle" ∧ yX3_isSo.cls ≠ "java/lang/invoke/VarHandle" ∧ (parseMethodDescriptor yX3_isSo.desc).map (fun d => d.parameters.length) = some 3 := by decide +kernel
set_option maxHeartbeats 4000000 in
set_option maxRecDepth 100000 in
theorem kX3_isSo (l : Launch) (G : xG) (w : Nat) (v0 : Nat → Int32) (x : Int32) (a : Int) (e_x : x.toInt = a) (y : Int32) (b : Int) (e_y : y.toInt = b) (z : Int32) (f : Int) (e_z : z.toInt = f) : Met l yX3_isSo wsX3_isSo rmX3_isSo (va_Pc [.ref w, .int x, .int y, .int z] (zPre G (fun H => WV G H w v0))) (zS (fun v => isB v (((v0 0).toInt = a ∧ (v0 1).toInt = b) ∧ (v0 2).toInt = f))) 0 0 zno := by
  refine z_ofW (cc := cX3_isSo) (maxL := 4) (ret := some .boolean) (by decide +kernel) rfl (Nat.le_of_ble_eq_true rfl) ?_
  intro p e s m below meth c hx hb hml hr hts hown hlocks hK hP ls hl
  have hV := hP
  have hown : s.vm.findClass RX3 = some m.cls := hown
  have hl : lv_has ls 4 [(0, .ref w), (1, .int x), (2, .int y), (3, .int z)] := hl
  refine lv_aload_n hx hb dX3_isSo_0 rfl (lv_at hl 0 rfl) ?_
  refine z_get hx hb hts iwX3_isSo_3 hown hK hV rfl 0 (by decide) flX3_isSo_13 rfl (v := .int (v0 0)) rfl dX3_isSo_1 ?_
  refine lv_iload_n hx hb dX3_isSo_4 rfl (lv_at hl 1 rfl) ?_
  refine z_icmp_ne (tgt := 28) hx hb rfl e_x dX3_isSo_5 (by decide) (fun c_1 => ?_) (fun c_1 => ?_)
  · refine lv_iconst (v := (0 : Int32)) hx hb dX3_isSo_28 (by decide) ?_
    exact z_rb (v := (0 : Int32)) hx hb hr hlocks rfl (isB.f rfl (by omega)) dX3_isSo_29
  · refine lv_aload_n hx hb dX3_isSo_8 rfl (lv_at hl 0 rfl) ?_
    refine z_get hx hb hts iwX3_isSo_3 hown hK hV rfl 1 (by decide) flX3_isSo_17 rfl (v := .int (v0 1)) rfl dX3_isSo_9 ?_
    refine lv_iload_n hx hb dX3_isSo_12 rfl (lv_at hl 2 rfl) ?_
    refine z_icmp_ne (tgt := 28) hx hb rfl e_y dX3_isSo_13 (by decide) (fun c_2 => ?_) (fun c_2 => ?_)
    · refine lv_iconst (v := (0 : Int32)) hx hb dX3_isSo_28 (by decide) ?_
      exact z_rb (v := (0 : Int32)) hx hb hr hlocks rfl (isB.f rfl (by omega)) dX3_isSo_29
    · refine lv_aload_n hx hb dX3_isSo_16 rfl (lv_at hl 0 rfl) ?_
      refine z_get hx hb hts iwX3_isSo_3 hown hK hV rfl 2 (by decide) flX3_isSo_20 rfl (v := .int (v0 2)) rfl dX3_isSo_17 ?_
      refine lv_iload_n hx hb dX3_isSo_20 rfl (lv_at hl 3 rfl) ?_
      refine z_icmp_ne (tgt := 28) hx hb rfl e_z dX3_isSo_21 (by decide) (fun c_3 => ?_) (fun c_3 => ?_)
      · refine lv_iconst (v := (0 : Int32)) hx hb dX3_isSo_28 (by decide) ?_
        exact z_rb (v := (0 : Int32)) hx hb hr hlocks rfl (isB.f rfl (by omega)) dX3_isSo_29
      · refine lv_iconst (v := (1 : Int32)) hx hb dX3_isSo_24 (by decide) ?_
        refine lv_goto (tgt := 29) hx hb dX3_isSo_25 (by decide) ?_
        exact z_rb (v := (1 : Int32)) hx hb hr hlocks rfl (isB.t rfl (by omega)) dX3_isSo_29

abbrev rmX0_isSo : Room := { frames := 0, cells := 0, slots := 0, locals := 0 }
theorem iwX0_isSo_0 : ∀ w ∈ wsX00, w ∈ wsX0_isSo := fun _ h => List.mem_cons_of_mem _ (List.mem_append_right _ h)
theorem flX0_isSo_39 : Cond.fieldLink RX0 39 "SiltedFloats$Gauge" "delay" "I" ∈ wsX0_isSo := by decide +kernel
theorem flX0_isSo_42 : Cond.fieldLink RX0 42 "SiltedFloats$Gauge" "scale" "I" ∈ wsX0_isSo := by decide +kernel
theorem flX0_isSo_45 : Cond.fieldLink RX0 45 "SiltedFloats$Gauge" "offset" "I" ∈ wsX0_isSo := by decide +kernel
theorem hyX0_isSo : yX0_isSo.cls = RX0 ∧ yX0_isSo.cls ≠ "java/lang/invoke/MethodHandle" ∧ yX0_isSo.cls ≠ "java/lang/invoke/VarHandle" ∧ (parseMethodDescriptor yX0_isSo.desc).map (fun d => d.parameters.length) = some 3 := by decide +kernel
set_option maxHeartbeats 4000000 in
set_option maxRecDepth 100000 in
theorem kX0_isSo (l : Launch) (G : xG) (g : Nat) (d : GD) (x : Int32) (a : Int) (e_x : x.toInt = a) (y : Int32) (b : Int) (e_y : y.toInt = b) (z : Int32) (f : Int) (e_z : z.toInt = f) : Met l yX0_isSo wsX0_isSo rmX0_isSo (va_Pc [.ref g, .int x, .int y, .int z] (zPre G (fun H => GA G H g d))) (zS (fun v => isB v (((d.1 0).toInt = a ∧ (d.1 1).toInt = b) ∧ (d.1 2).toInt = f))) 0 0 zno := by
  refine z_ofW (cc := cX0_isSo) (maxL := 4) (ret := some .boolean) (by decide +kernel) rfl (Nat.le_of_ble_eq_true rfl) ?_
  intro p e s m below meth c hx hb hml hr hts hown hlocks hK hP ls hl
  have hG := hP
  have hown : s.vm.findClass RX0 = some m.cls := hown
  have hl : lv_has ls 4 [(0, .ref g), (1, .int x), (2, .int y), (3, .int z)] := hl
  refine lv_aload_n hx hb dX0_isSo_0 rfl (lv_at hl 0 rfl) ?_
  refine z_get hx hb hts iwX0_isSo_0 hown hK hG.1 rfl 0 (by decide) flX0_isSo_39 rfl (v := .int (d.1 0)) rfl dX0_isSo_1 ?_
  refine lv_iload_n hx hb dX0_isSo_4 rfl (lv_at hl 1 rfl) ?_
  refine z_icmp_ne (tgt := 28) hx hb rfl e_x dX0_isSo_5 (by decide) (fun c_1 => ?_) (fun c_1 => ?_)
  · refine lv_iconst (v := (0 : Int32)) hx hb dX0_isSo_28 (by decide) ?_
    exact z_rb (v := (0 : Int32)) hx hb hr hlocks rfl (isB.f rfl (by omega)) dX0_isSo_29
  · refine lv_aload_n hx hb dX0_isSo_8 rfl (lv_at hl 0 rfl) ?_
    refine z_get hx hb hts iwX0_isSo_0 hown hK hG.1 rfl 1 (by decide) flX0_isSo_42 rfl (v := .int (d.1 1)) rfl dX0_isSo_9 ?_
    refine lv_iload_n hx hb dX0_isSo_12 rfl (lv_at hl 2 rfl) ?_
    refine z_icmp_ne (tgt := 28) hx hb rfl e_y dX0_isSo_13 (by decide) (fun c_2 => ?_) (fun c_2 => ?_)
    · refine lv_iconst (v := (0 : Int32)) hx hb dX0_isSo_28 (by decide) ?_
      exact z_rb (v := (0 : Int32)) hx hb hr hlocks rfl (isB.f rfl (by omega)) dX0_isSo_29
    · refine lv_aload_n hx hb dX0_isSo_16 rfl (lv_at hl 0 rfl) ?_
      refine z_get hx hb hts iwX0_isSo_0 hown hK hG.1 rfl 2 (by decide) flX0_isSo_45 rfl (v := .int (d.1 2)) rfl dX0_isSo_17 ?_
      refine lv_iload_n hx hb dX0_isSo_20 rfl (lv_at hl 3 rfl) ?_
      refine z_icmp_ne (tgt := 28) hx hb rfl e_z dX0_isSo_21 (by decide) (fun c_3 => ?_) (fun c_3 => ?_)
      · refine lv_iconst (v := (0 : Int32)) hx hb dX0_isSo_28 (by decide) ?_
        exact z_rb (v := (0 : Int32)) hx hb hr hlocks rfl (isB.f rfl (by omega)) dX0_isSo_29
      · refine lv_iconst (v := (1 : Int32)) hx hb dX0_isSo_24 (by decide) ?_
        refine lv_goto (tgt := 29) hx hb dX0_isSo_25 (by decide) ?_
        exact z_rb (v := (1 : Int32)) hx hb hr hlocks rfl (isB.t rfl (by omega)) dX0_isSo_29

abbrev rmX0_isNotedAt : Room := { frames := 0, cells := 0, slots := 0, locals := 0 }
theorem iwX0_isNotedAt_0 : ∀ w ∈ wsX00, w ∈ wsX0_isNotedAt := fun _ h => List.mem_cons_of_mem _ (List.mem_append_right _ h)
theorem flX0_isNotedAt_66 : Cond.fieldLink RX0 66 "SiltedFloats$Gauge" "lastNoteHour" "I" ∈ wsX0_isNotedAt := by decide +kernel
theorem hyX0_isNotedAt : yX0_isNotedAt.cls = RX0 ∧ yX0_isNotedAt.cls ≠ "java/lang/invoke/MethodHandle" ∧ yX0_isNotedAt.cls ≠ "java/lang/invoke/VarHandle" ∧ (parseMethodDescriptor yX0_isNotedAt.desc).map (fun d => d.parameters.length) = some 1 := by decide +kernel
set_option maxHeartbeats 4000000 in
set_option maxRecDepth 100000 in
theorem kX0_isNotedAt (l : Launch) (G : xG) (g : Nat) (d : GD) (x : Int32) (h : Int) (e_x : x.toInt = h) : Met l yX0_isNotedAt wsX0_isNotedAt rmX0_isNotedAt (va_Pc [.ref g, .int x] (zPre G (fun H => GA G H g d))) (zS (fun v => isB v ((d.1 11).toInt = h))) 0 0 zno := by
  refine z_ofW (cc := cX0_isNotedAt) (maxL := 2) (ret := some .boolean) (by decide +kernel) rfl (Nat.le_of_ble_eq_true rfl) ?_
  intro p e s m below meth c hx hb hml hr hts hown hlocks hK hP ls hl
  have hG := hP
  have hown : s.vm.findClass RX0 = some m.cls := hown
  have hl : lv_has ls 2 [(0, .ref g), (1, .int x)] := hl
  refine lv_aload_n hx hb dX0_isNotedAt_0 rfl (lv_at hl 0 rfl) ?_
  refine z_get hx hb hts iwX0_isNotedAt_0 hown hK hG.1 rfl 11 (by decide) flX0_isNotedAt_66 rfl (v := .int (d.1 11)) rfl dX0_isNotedAt_1 ?_
  refine lv_iload_n hx hb dX0_isNotedAt_4 rfl (lv_at hl 1 rfl) ?_
  refine z_icmp_ne (tgt := 12) hx hb rfl e_x dX0_isNotedAt_5 (by decide) (fun c_1 => ?_) (fun c_1 => ?_)
  · refine lv_iconst (v := (0 : Int32)) hx hb dX0_isNotedAt_12 (by decide) ?_
    exact z_rb (v := (0 : Int32)) hx hb hr hlocks rfl (isB.f rfl (by omega)) dX0_isNotedAt_13
  · refine lv_iconst (v := (1 : Int32)) hx hb dX0_isNotedAt_8 (by decide) ?_
    refine lv_goto (tgt := 13) hx hb dX0_isNotedAt_9 (by decide) ?_
    exact z_rb (v := (1 : Int32)) hx hb hr hlocks rfl (isB.t rfl (by omega)) dX0_isNotedAt_13

abbrev rmX1_isStationLetter : Room := { frames := 0, cells := 0, slots := 0, locals := 0 }
theorem hyX1_isStationLetter : yX1_isStationLetter.cls ≠ "java/lang/invoke/MethodHandle" ∧ yX1_isStationLetter.cls ≠ "java/lang/invoke/VarHandle" ∧ (parseMethodDescriptor yX1_isStationLetter.desc).map (fun d => d.parameters.length) = some 1 := by decide +kernel
set_option maxHeartbeats 4000000 in
set_option maxRecDepth 100000 in
theorem kX1_isStationLetter (l : Launch) (G : xG) (x : Int32) (k : Int) (e_x : x.toInt = k) : Met l yX1_isStationLetter wsX1_isStationLetter rmX1_isStationLetter (va_Pc [.int x] (zPre G (fun H => True))) (zS (fun v => isB v (slP k))) 0 0 zno := by
  refine z_ofW (cc := cX1_isStationLetter) (maxL := 1) (ret := some .boolean) (by decide +kernel) rfl (Nat.le_of_ble_eq_true rfl) ?_
  intro p e s m below meth c hx hb hml hr hts hown hlocks hK hP ls hl
  have hown : s.vm.findClass RX1 = some m.cls := hown
  have hl : lv_has ls 1 [(0, .int x)] := hl
  refine lv_iload_n hx hb dX1_isStationLetter_0 rfl (lv_at hl 0 rfl) ?_
  refine lv_bipush (v := (120 : Int32)) hx hb dX1_isStationLetter_1 (by decide) ?_
  refine z_icmp_eq (tgt := 24) hx hb e_x kI_120 dX1_isStationLetter_3 (by decide) (fun c_1 => ?_) (fun c_1 => ?_)
  · refine lv_iconst (v := (1 : Int32)) hx hb dX1_isStationLetter_24 (by decide) ?_
    refine lv_goto (tgt := 29) hx hb dX1_isStationLetter_25 (by decide) ?_
    exact z_rb (v := (1 : Int32)) hx hb hr hlocks rfl (isB.t rfl (by unfold slP; omega)) dX1_isStationLetter_29
  · refine lv_iload_n hx hb dX1_isStationLetter_6 rfl (lv_at hl 0 rfl) ?_
    refine lv_bipush (v := (111 : Int32)) hx hb dX1_isStationLetter_7 (by decide) ?_
    refine z_icmp_eq (tgt := 24) hx hb e_x kI_111 dX1_isStationLetter_9 (by decide) (fun c_2 => ?_) (fun c_2 => ?_)
    · refine lv_iconst (v := (1 : Int32)) hx hb dX1_isStationLetter_24 (by decide) ?_
      refine lv_goto (tgt := 29) hx hb dX1_isStationLetter_25 (by decide) ?_
      exact z_rb (v := (1 : Int32)) hx hb hr hlocks rfl (isB.t rfl (by unfold slP; omega)) dX1_isStationLetter_29
    · refine lv_iload_n hx hb dX1_isStationLetter_12 rfl (lv_at hl 0 rfl) ?_
      refine lv_bipush (v := (99 : Int32)) hx hb dX1_isStationLetter_13 (by decide) ?_
      refine z_icmp_eq (tgt := 24) hx hb e_x kI_99 dX1_isStationLetter_15 (by decide) (fun c_3 => ?_) (fun c_3 => ?_)
      · refine lv_iconst (v := (1 : Int32)) hx hb dX1_isStationLetter_24 (by decide) ?_
        refine lv_goto (tgt := 29) hx hb dX1_isStationLetter_25 (by decide) ?_
        exact z_rb (v := (1 : Int32)) hx hb hr hlocks rfl (isB.t rfl (by unfold slP; omega)) dX1_isStationLetter_29
      · refine lv_iload_n hx hb dX1_isStationLetter_18 rfl (lv_at hl 0 rfl) ?_
        refine lv_bipush (v := (108 : Int32)) hx hb dX1_isStationLetter_19 (by decide) ?_
        refine z_icmp_ne (tgt := 28) hx hb e_x kI_108 dX1_isStationLetter_21 (by decide) (fun c_4 => ?_) (fun c_4 => ?_)
        · refine lv_iconst (v := (0 : Int32)) hx hb dX1_isStationLetter_28 (by decide) ?_
          exact z_rb (v := (0 : Int32)) hx hb hr hlocks rfl (isB.f rfl (by unfold slP; omega)) dX1_isStationLetter_29
        · refine lv_iconst (v := (1 : Int32)) hx hb dX1_isStationLetter_24 (by decide) ?_
          refine lv_goto (tgt := 29) hx hb dX1_isStationLetter_25 (by decide) ?_
          exact z_rb (v := (1 : Int32)) hx hb hr hlocks rfl (isB.t rfl (by unfold slP; omega)) dX1_isStationLetter_29

abbrev rmX1_isDigit : Room := { frames := 0, cells := 0, slots := 0, locals := 0 }
theorem hyX1_isDigit : yX1_isDigit.cls ≠ "java/lang/invoke/MethodHandle" ∧ yX1_isDigit.cls ≠ "java/lang/invoke/VarHandle" ∧ (parseMethodDescriptor yX1_isDigit.desc).map (fun d => d.parameters.length) = some 1 := by decide +kernel
set_option maxHeartbeats 4000000 in
set_option maxRecDepth 100000 in
theorem kX1_isDigit (l : Launch) (G : xG) (x : Int32) (k : Int) (e_x : x.toInt = k) : Met l yX1_isDigit wsX1_isDigit rmX1_isDigit (va_Pc [.int x] (zPre G (fun H => True))) (zS (fun v => isB v (dgP k))) 0 0 zno := by
  refine z_ofW (cc := cX1_isDigit) (maxL := 1) (ret := some .boolean) (by decide +kernel) rfl (Nat.le_of_ble_eq_true rfl) ?_
  intro p e s m below meth c hx hb hml hr hts hown hlocks hK hP ls hl
  have hown : s.vm.findClass RX1 = some m.cls := hown
  have hl : lv_has ls 1 [(0, .int x)] := hl
  refine lv_iload_n hx hb dX1_isDigit_0 rfl (lv_at hl 0 rfl) ?_
  refine lv_bipush (v := (48 : Int32)) hx hb dX1_isDigit_1 (by decide) ?_
  refine z_icmp_lt (tgt := 16) hx hb e_x kI_48 dX1_isDigit_3 (by decide) (fun c_1 => ?_) (fun c_1 => ?_)
  · refine lv_iconst (v := (0 : Int32)) hx hb dX1_isDigit_16 (by decide) ?_
    exact z_rb (v := (0 : Int32)) hx hb hr hlocks rfl (isB.f rfl (by unfold dgP; omega)) dX1_isDigit_17
  · refine lv_iload_n hx hb dX1_isDigit_6 rfl (lv_at hl 0 rfl) ?_
    refine lv_bipush (v := (57 : Int32)) hx hb dX1_isDigit_7 (by decide) ?_
    refine z_icmp_gt (tgt := 16) hx hb e_x kI_57 dX1_isDigit_9 (by decide) (fun c_2 => ?_) (fun c_2 => ?_)
    · refine lv_iconst (v := (0 : Int32)) hx hb dX1_isDigit_16 (by decide) ?_
      exact z_rb (v := (0 : Int32)) hx hb hr hlocks rfl (isB.f rfl (by unfold dgP; omega)) dX1_isDigit_17
    · refine lv_iconst (v := (1 : Int32)) hx hb dX1_isDigit_12 (by decide) ?_
      refine lv_goto (tgt := 17) hx hb dX1_isDigit_13 (by decide) ?_
      exact z_rb (v := (1 : Int32)) hx hb hr hlocks rfl (isB.t rfl (by unfold dgP; omega)) dX1_isDigit_17

abbrev rmX1_dueBehindOrder : Room := { frames := 0, cells := 0, slots := 0, locals := 0 }
theorem hyX1_dueBehindOrder : yX1_dueBehindOrder.cls ≠ "java/lang/invoke/MethodHandle" ∧ yX1_dueBehindOrder.cls ≠ "java/lang/invoke/VarHandle" ∧ (parseMethodDescriptor yX1_dueBehindOrder.desc).map (fun d => d.parameters.length) = some 1 := by decide +kernel
set_option maxHeartbeats 4000000 in
set_option maxRecDepth 100000 in
theorem kX1_dueBehindOrder (l : Launch) (G : xG) (x : Int32) (k : Int) (e_x : x.toInt = k) : Met l yX1_dueBehindOrder wsX1_dueBehindOrder rmX1_dueBehindOrder (va_Pc [.int x] (zPre G (fun H => True))) (zS (fun v => v.toInt = dboZ k)) 0 0 zno := by
  refine z_ofW (cc := cX1_dueBehindOrder) (maxL := 1) (ret := some .int) (by decide +kernel) rfl (Nat.le_of_ble_eq_true rfl) ?_
  intro p e s m below meth c hx hb hml hr hts hown hlocks hK hP ls hl
  have hown : s.vm.findClass RX1 = some m.cls := hown
  have hl : lv_has ls 1 [(0, .int x)] := hl
  refine lv_iload_n hx hb dX1_dueBehindOrder_0 rfl (lv_at hl 0 rfl) ?_
  refine lv_bipush (v := (59 : Int32)) hx hb dX1_dueBehindOrder_1 (by decide) ?_
  refine z_icmp_ne (tgt := 10) hx hb e_x kI_59 dX1_dueBehindOrder_3 (by decide) (fun c_1 => ?_) (fun c_1 => ?_)
  · refine lv_iconst (v := (5 : Int32)) hx hb dX1_dueBehindOrder_10 (by decide) ?_
    exact z_ri (v := (5 : Int32)) hx hb hr hlocks (show (5 : Int32).toInt = dboZ k from (by unfold dboZ; split <;> first | rfl | omega)) dX1_dueBehindOrder_11
  · refine lv_iconst (v := (0 : Int32)) hx hb dX1_dueBehindOrder_6 (by decide) ?_
    refine lv_goto (tgt := 11) hx hb dX1_dueBehindOrder_7 (by decide) ?_
    exact z_ri (v := (0 : Int32)) hx hb hr hlocks (show (0 : Int32).toInt = dboZ k from (by unfold dboZ; split <;> first | rfl | omega)) dX1_dueBehindOrder_11

abbrev rmX1_dueBehindLetter : Room := { frames := 1, cells := 0, slots := 0, locals := 20 }
theorem hyX1_dueBehindLetter : yX1_dueBehindLetter.cls ≠ "java/lang/invoke/MethodHandle" ∧ yX1_dueBehindLetter.cls ≠ "java/lang/invoke/VarHandle" ∧ (parseMethodDescriptor yX1_dueBehindLetter.desc).map (fun d => d.parameters.length) = some 1 := by decide +kernel
set_option maxHeartbeats 4000000 in
set_option maxRecDepth 100000 in
theorem kX1_dueBehindLetter (l : Launch) (G : xG) (x : Int32) (k : Int) (e_x : x.toInt = k) : Met l yX1_dueBehindLetter wsX1_dueBehindLetter rmX1_dueBehindLetter (va_Pc [.int x] (zPre G (fun H => True))) (zS (fun v => v.toInt = dblZ k)) 0 0 zno := by
  refine z_ofW (cc := cX1_dueBehindLetter) (maxL := 1) (ret := some .int) (by decide +kernel) rfl (Nat.le_of_ble_eq_true rfl) ?_
  intro p e s m below meth c hx hb hml hr hts hown hlocks hK hP ls hl
  have hown : s.vm.findClass RX1 = some m.cls := hown
  have hl : lv_has ls 1 [(0, .int x)] := hl
  refine lv_iload_n hx hb dX1_dueBehindLetter_0 rfl (lv_at hl 0 rfl) ?_
  refine lv_bipush (v := (112 : Int32)) hx hb dX1_dueBehindLetter_1 (by decide) ?_
  refine z_icmp_ne (tgt := 8) hx hb e_x kI_112 dX1_dueBehindLetter_3 (by decide) (fun c_1 => ?_) (fun c_1 => ?_)
  · refine lv_iload_n hx hb dX1_dueBehindLetter_8 rfl (lv_at hl 0 rfl) ?_
    refine z_cS (As := [.int x]) (rest := []) ⟨hx, hb, hml, hown, hts⟩ (kX1_isStationLetter l G x k e_x) (va_cwS 1 hts gX1_dueBehindLetter_X1_isStationLetter rfl rfl rfl hyX1_isStationLetter ⟨Nat.le_of_ble_eq_true rfl, Nat.le_of_ble_eq_true rfl⟩) hK trivial rfl hl.1 rfl (Nat.le_of_ble_eq_true rfl) dX1_dueBehindLetter_9 ⟨Nat.zero_le _, Nat.zero_le _⟩ (fun z2 e2 => ?_)
    have e2 : isB z2 (slP k) := e2
    refine z_ifb_eq (tgt := 19) hx hb e2 dX1_dueBehindLetter_12 (by decide) (fun c_3 => ?_) (fun c_3 => ?_)
    · refine lv_iconst (v := (5 : Int32)) hx hb dX1_dueBehindLetter_19 (by decide) ?_
      exact z_ri (v := (5 : Int32)) hx hb hr hlocks (show (5 : Int32).toInt = dblZ k from (by unfold dblZ; split <;> first | rfl | omega | (rw [if_pos (by assumption)]; rfl) | (rw [if_neg (by assumption)]; rfl))) dX1_dueBehindLetter_20
    · refine lv_iconst (v := (3 : Int32)) hx hb dX1_dueBehindLetter_15 (by decide) ?_
      refine lv_goto (tgt := 20) hx hb dX1_dueBehindLetter_16 (by decide) ?_
      exact z_ri (v := (3 : Int32)) hx hb hr hlocks (show (3 : Int32).toInt = dblZ k from (by unfold dblZ; split <;> first | rfl | omega | (rw [if_pos (by assumption)]; rfl) | (rw [if_neg (by assumption)]; rfl))) dX1_dueBehindLetter_20
  · refine lv_iconst (v := (1 : Int32)) hx hb dX1_dueBehindLetter_6 (by decide) ?_
    exact z_ri (v := (1 : Int32)) hx hb hr hlocks (show (1 : Int32).toInt = dblZ k from (by unfold dblZ; split <;> first | rfl | omega | (rw [if_pos (by assumption)]; rfl) | (rw [if_neg (by assumption)]; rfl))) dX1_dueBehindLetter_7

abbrev rmX1_dueBehind : Room := { frames := 2, cells := 0, slots := 0, locals := 40 }
theorem nlX1_dueBehind_31 : (Cond.static yX4_isWithin ∈ wsX1_dueBehind) ∧ (Cond.initialized yX4_isWithin.cls ∈ wsX1_dueBehind) := by decide +kernel
theorem hyX1_dueBehind : yX1_dueBehind.cls ≠ "java/lang/invoke/MethodHandle" ∧ yX1_dueBehind.cls ≠ "java/lang/invoke/VarHandle" ∧ (parseMethodDescriptor yX1_dueBehind.desc).map (fun d => d.parameters.length) = some 2 := by decide +kernel
set_option maxHeartbeats 4000000 in
set_option maxRecDepth 100000 in
theorem kX1_dueBehind (l : Launch) (G : xG) (y : Int32) (due : Int) (e_y : y.toInt = due) (x : Int32) (k : Int) (e_x : x.toInt = k) : Met l yX1_dueBehind wsX1_dueBehind rmX1_dueBehind (va_Pc [.int y, .int x] (zPre G (fun H => True))) (zS (fun v => v.toInt = dbZ due k)) 0 0 zno := by
  refine z_ofW (cc := cX1_dueBehind) (maxL := 2) (ret := some .int) (by decide +kernel) rfl (Nat.le_of_ble_eq_true rfl) ?_
  intro p e s m below meth c hx hb hml hr hts hown hlocks hK hP ls hl
  have hown : s.vm.findClass RX1 = some m.cls := hown
  have hl : lv_has ls 2 [(0, .int y), (1, .int x)] := hl
  refine lv_iload_n hx hb dX1_dueBehind_0 rfl (lv_at hl 0 rfl) ?_
  rcases (show due < 0 ∨ 4 < due ∨ due = 0 ∨ due = 1 ∨ due = 2 ∨ due = 3 ∨ due = 4 from by omega) with c_1 | c_1 | c_1 | c_1 | c_1 | c_1 | c_1
  · refine lv_tableOut (tgt := 96) hx hb dX1_dueBehind_1 (by rw [e_y]; omega) (by decide) ?_
    refine lv_iconst (v := (5 : Int32)) hx hb dX1_dueBehind_96 (by decide) ?_
    exact z_ri (v := (5 : Int32)) hx hb hr hlocks (show (5 : Int32).toInt = dbZ due k from (by first | (rw [kI_5]; unfold dbZ; repeat' split; all_goals first | rfl | omega | contradiction) | (unfold dbZ; repeat' split; all_goals first | rfl | omega | contradiction))) dX1_dueBehind_97
  · refine lv_tableOut (tgt := 96) hx hb dX1_dueBehind_1 (by rw [e_y]; omega) (by decide) ?_
    refine lv_iconst (v := (5 : Int32)) hx hb dX1_dueBehind_96 (by decide) ?_
    exact z_ri (v := (5 : Int32)) hx hb hr hlocks (show (5 : Int32).toInt = dbZ due k from (by first | (rw [kI_5]; unfold dbZ; repeat' split; all_goals first | rfl | omega | contradiction) | (unfold dbZ; repeat' split; all_goals first | rfl | omega | contradiction))) dX1_dueBehind_97
  · refine lv_tableIn (off := 35) (tgt := 36) hx hb dX1_dueBehind_1 (by rw [e_y]; omega) (by rw [e_y]; omega) (by rw [e_y, c_1]; rfl) (by decide) ?_
    refine lv_iload_n hx hb dX1_dueBehind_36 rfl (lv_at hl 1 rfl) ?_
    refine z_cS (As := [.int x]) (rest := []) ⟨hx, hb, hml, hown, hts⟩ (kX1_dueBehindLetter l G x k e_x) (va_cwS 1 hts gX1_dueBehind_X1_dueBehindLetter rfl rfl rfl hyX1_dueBehindLetter ⟨Nat.le_of_ble_eq_true rfl, Nat.le_of_ble_eq_true rfl⟩) hK trivial rfl hl.1 rfl (Nat.le_of_ble_eq_true rfl) dX1_dueBehind_37 ⟨Nat.zero_le _, Nat.zero_le _⟩ (fun z2 e2 => ?_)
    have e2 : z2.toInt = dblZ k := e2
    exact z_ri (v := z2) hx hb hr hlocks (show z2.toInt = dbZ due k from (by first | (rw [e2]; unfold dbZ; repeat' split; all_goals first | rfl | omega | contradiction) | (unfold dbZ; repeat' split; all_goals first | rfl | omega | contradiction))) dX1_dueBehind_40
  · refine lv_tableIn (off := 40) (tgt := 41) hx hb dX1_dueBehind_1 (by rw [e_y]; omega) (by rw [e_y]; omega) (by rw [e_y, c_1]; rfl) (by decide) ?_
    refine lv_iload_n hx hb dX1_dueBehind_41 rfl (lv_at hl 1 rfl) ?_
    refine lv_bipush (v := (49 : Int32)) hx hb dX1_dueBehind_42 (by decide) ?_
    refine lv_bipush (v := (57 : Int32)) hx hb dX1_dueBehind_44 (by decide) ?_
    refine z_cN (As := [.int x, .int (49 : Int32), .int (57 : Int32)]) (rest := []) ⟨hx, hb, hml, hown, hts⟩ (kX4_isWithin l G x k e_x (49 : Int32) (49 : Int) kI_49 (57 : Int32) (57 : Int) kI_57) ⟨va_cnB 3 hts gX1_dueBehind_X4_isWithin_n31 rfl rfl rfl hK.2.2.1 (hts _ nlX1_dueBehind_31.2) hyX4_isWithin ⟨Nat.le_of_ble_eq_true rfl, Nat.le_of_ble_eq_true rfl⟩, hts _ nlX1_dueBehind_31.1, trivial⟩ hK trivial rfl hl.1 rfl (Nat.le_of_ble_eq_true rfl) dX1_dueBehind_46 ⟨Nat.zero_le _, Nat.zero_le _⟩ (fun z3 e3 => ?_)
    have e3 : isB z3 ((49 : Int) ≤ k ∧ k ≤ (57 : Int)) := e3
    refine z_ifb_eq (tgt := 56) hx hb e3 dX1_dueBehind_49 (by decide) (fun c_4 => ?_) (fun c_4 => ?_)
    · refine lv_iconst (v := (5 : Int32)) hx hb dX1_dueBehind_56 (by decide) ?_
      exact z_ri (v := (5 : Int32)) hx hb hr hlocks (show (5 : Int32).toInt = dbZ due k from (by first | (rw [kI_5]; unfold dbZ; repeat' split; all_goals first | rfl | omega | contradiction) | (unfold dbZ; repeat' split; all_goals first | rfl | omega | contradiction))) dX1_dueBehind_57
    · refine lv_iconst (v := (2 : Int32)) hx hb dX1_dueBehind_52 (by decide) ?_
      refine lv_goto (tgt := 57) hx hb dX1_dueBehind_53 (by decide) ?_
      exact z_ri (v := (2 : Int32)) hx hb hr hlocks (show (2 : Int32).toInt = dbZ due k from (by first | (rw [kI_2]; unfold dbZ; repeat' split; all_goals first | rfl | omega | contradiction) | (unfold dbZ; repeat' split; all_goals first | rfl | omega | contradiction))) dX1_dueBehind_57
  · refine lv_tableIn (off := 57) (tgt := 58) hx hb dX1_dueBehind_1 (by rw [e_y]; omega) (by rw [e_y]; omega) (by rw [e_y, c_1]; rfl) (by decide) ?_
    refine lv_iload_n hx hb dX1_dueBehind_58 rfl (lv_at hl 1 rfl) ?_
    refine z_cS (As := [.int x]) (rest := []) ⟨hx, hb, hml, hown, hts⟩ (kX1_isDigit l G x k e_x) (va_cwS 1 hts gX1_dueBehind_X1_isDigit rfl rfl rfl hyX1_isDigit ⟨Nat.le_of_ble_eq_true rfl, Nat.le_of_ble_eq_true rfl⟩) hK trivial rfl hl.1 rfl (Nat.le_of_ble_eq_true rfl) dX1_dueBehind_59 ⟨Nat.zero_le _, Nat.zero_le _⟩ (fun z5 e5 => ?_)
    have e5 : isB z5 (dgP k) := e5
    refine z_ifb_eq (tgt := 69) hx hb e5 dX1_dueBehind_62 (by decide) (fun c_6 => ?_) (fun c_6 => ?_)
    · refine lv_iload_n hx hb dX1_dueBehind_69 rfl (lv_at hl 1 rfl) ?_
      refine z_cS (As := [.int x]) (rest := []) ⟨hx, hb, hml, hown, hts⟩ (kX1_dueBehindOrder l G x k e_x) (va_cwS 1 hts gX1_dueBehind_X1_dueBehindOrder rfl rfl rfl hyX1_dueBehindOrder ⟨Nat.le_of_ble_eq_true rfl, Nat.le_of_ble_eq_true rfl⟩) hK trivial rfl hl.1 rfl (Nat.le_of_ble_eq_true rfl) dX1_dueBehind_70 ⟨Nat.zero_le _, Nat.zero_le _⟩ (fun z7 e7 => ?_)
      have e7 : z7.toInt = dboZ k := e7
      exact z_ri (v := z7) hx hb hr hlocks (show z7.toInt = dbZ due k from (by first | (rw [e7]; unfold dbZ; repeat' split; all_goals first | rfl | omega | contradiction) | (unfold dbZ; repeat' split; all_goals first | rfl | omega | contradiction))) dX1_dueBehind_73
    · refine lv_iconst (v := (4 : Int32)) hx hb dX1_dueBehind_65 (by decide) ?_
      refine lv_goto (tgt := 73) hx hb dX1_dueBehind_66 (by decide) ?_
      exact z_ri (v := (4 : Int32)) hx hb hr hlocks (show (4 : Int32).toInt = dbZ due k from (by first | (rw [kI_4]; unfold dbZ; repeat' split; all_goals first | rfl | omega | contradiction) | (unfold dbZ; repeat' split; all_goals first | rfl | omega | contradiction))) dX1_dueBehind_73
  · refine lv_tableIn (off := 73) (tgt := 74) hx hb dX1_dueBehind_1 (by rw [e_y]; omega) (by rw [e_y]; omega) (by rw [e_y, c_1]; rfl) (by decide) ?_
    refine lv_iload_n hx hb dX1_dueBehind_74 rfl (lv_at hl 1 rfl) ?_
    refine lv_bipush (v := (48 : Int32)) hx hb dX1_dueBehind_75 (by decide) ?_
    refine lv_bipush (v := (50 : Int32)) hx hb dX1_dueBehind_77 (by decide) ?_
    refine z_cN (As := [.int x, .int (48 : Int32), .int (50 : Int32)]) (rest := []) ⟨hx, hb, hml, hown, hts⟩ (kX4_isWithin l G x k e_x (48 : Int32) (48 : Int) kI_48 (50 : Int32) (50 : Int) kI_50) ⟨va_cnB 3 hts gX1_dueBehind_X4_isWithin_n31 rfl rfl rfl hK.2.2.1 (hts _ nlX1_dueBehind_31.2) hyX4_isWithin ⟨Nat.le_of_ble_eq_true rfl, Nat.le_of_ble_eq_true rfl⟩, hts _ nlX1_dueBehind_31.1, trivial⟩ hK trivial rfl hl.1 rfl (Nat.le_of_ble_eq_true rfl) dX1_dueBehind_79 ⟨Nat.zero_le _, Nat.zero_le _⟩ (fun z8 e8 => ?_)
    have e8 : isB z8 ((48 : Int) ≤ k ∧ k ≤ (50 : Int)) := e8
    refine z_ifb_eq (tgt := 89) hx hb e8 dX1_dueBehind_82 (by decide) (fun c_9 => ?_) (fun c_9 => ?_)
    · refine lv_iconst (v := (5 : Int32)) hx hb dX1_dueBehind_89 (by decide) ?_
      exact z_ri (v := (5 : Int32)) hx hb hr hlocks (show (5 : Int32).toInt = dbZ due k from (by first | (rw [kI_5]; unfold dbZ; repeat' split; all_goals first | rfl | omega | contradiction) | (unfold dbZ; repeat' split; all_goals first | rfl | omega | contradiction))) dX1_dueBehind_90
    · refine lv_iconst (v := (4 : Int32)) hx hb dX1_dueBehind_85 (by decide) ?_
      refine lv_goto (tgt := 90) hx hb dX1_dueBehind_86 (by decide) ?_
      exact z_ri (v := (4 : Int32)) hx hb hr hlocks (show (4 : Int32).toInt = dbZ due k from (by first | (rw [kI_4]; unfold dbZ; repeat' split; all_goals first | rfl | omega | contradiction) | (unfold dbZ; repeat' split; all_goals first | rfl | omega | contradiction))) dX1_dueBehind_90
  · refine lv_tableIn (off := 90) (tgt := 91) hx hb dX1_dueBehind_1 (by rw [e_y]; omega) (by rw [e_y]; omega) (by rw [e_y, c_1]; rfl) (by decide) ?_
    refine lv_iload_n hx hb dX1_dueBehind_91 rfl (lv_at hl 1 rfl) ?_
    refine z_cS (As := [.int x]) (rest := []) ⟨hx, hb, hml, hown, hts⟩ (kX1_dueBehindOrder l G x k e_x) (va_cwS 1 hts gX1_dueBehind_X1_dueBehindOrder rfl rfl rfl hyX1_dueBehindOrder ⟨Nat.le_of_ble_eq_true rfl, Nat.le_of_ble_eq_true rfl⟩) hK trivial rfl hl.1 rfl (Nat.le_of_ble_eq_true rfl) dX1_dueBehind_92 ⟨Nat.zero_le _, Nat.zero_le _⟩ (fun z10 e10 => ?_)
    have e10 : z10.toInt = dboZ k := e10
    exact z_ri (v := z10) hx hb hr hlocks (show z10.toInt = dbZ due k from (by first | (rw [e10]; unfold dbZ; repeat' split; all_goals first | rfl | omega | contradiction) | (unfold dbZ; repeat' split; all_goals first | rfl | omega | contradiction))) dX1_dueBehind_95

abbrev rmX1_characterAt : Room := { frames := 0, cells := 0, slots := 0, locals := 0 }
theorem iwX1_characterAt_1 : ∀ w ∈ wsX10, w ∈ wsX1_characterAt := fun _ h => List.mem_cons_of_mem _ (List.mem_append_right _ h)
theorem flX1_characterAt_15 : Cond.fieldLink RX1 15 "SiltedFloats$OrderText" "length" "I" ∈ wsX1_characterAt := by decide +kernel
theorem flX1_characterAt_9 : Cond.fieldLink RX1 9 "SiltedFloats$OrderText" "characters" "[C" ∈ wsX1_characterAt := by decide +kernel
theorem hyX1_characterAt : yX1_characterAt.cls = RX1 ∧ yX1_characterAt.cls ≠ "java/lang/invoke/MethodHandle" ∧ yX1_characterAt.cls ≠ "java/lang/invoke/VarHandle" ∧ (parseMethodDescriptor yX1_characterAt.desc).map (fun d => d.parameters.length) = some 1 := by decide +kernel
set_option maxHeartbeats 4000000 in
set_option maxRecDepth 100000 in
theorem kX1_characterAt (l : Launch) (G : xG) (x0 : Nat) (t : TD) (x : Int32) (i : Int) (e_x : x.toInt = i) (ht : textOk t) : Met l yX1_characterAt wsX1_characterAt rmX1_characterAt (va_Pc [.ref x0, .int x] (zPre G (fun H => TX G H x0 t))) (zS (fun v => v.toInt = chZ t i)) 0 0 zno := by
  refine z_ofW (cc := cX1_characterAt) (maxL := 2) (ret := some .char) (by decide +kernel) rfl (Nat.le_of_ble_eq_true rfl) ?_
  intro p e s m below meth c hx hb hml hr hts hown hlocks hK hP ls hl
  have hT := hP
  have hown : s.vm.findClass RX1 = some m.cls := hown
  have hl : lv_has ls 2 [(0, .ref x0), (1, .int x)] := hl
  refine lv_iload_n hx hb dX1_characterAt_0 rfl (lv_at hl 1 rfl) ?_
  refine z_if_lt (tgt := 30) hx hb e_x dX1_characterAt_1 (by decide) (fun c_1 => ?_) (fun c_1 => ?_)
  · refine lv_iconst (v := (0 : Int32)) hx hb dX1_characterAt_30 (by decide) ?_
    exact z_rc (v := (0 : Int32)) hx hb hr hlocks (by first | rfl | exact zi_narC (ht.2 _)) (show (0 : Int32).toInt = chZ t i from (by unfold chZ; split <;> first | rfl | omega)) dX1_characterAt_31
  · refine lv_iload_n hx hb dX1_characterAt_4 rfl (lv_at hl 1 rfl) ?_
    refine lv_aload_n hx hb dX1_characterAt_5 rfl (lv_at hl 0 rfl) ?_
    refine z_get hx hb hts iwX1_characterAt_1 hown hK hT.1 rfl 0 (by decide) flX1_characterAt_15 rfl (v := .int t.1) rfl dX1_characterAt_6 ?_
    refine z_icmp_ge (tgt := 30) hx hb e_x rfl dX1_characterAt_9 (by decide) (fun c_2 => ?_) (fun c_2 => ?_)
    · refine lv_iconst (v := (0 : Int32)) hx hb dX1_characterAt_30 (by decide) ?_
      exact z_rc (v := (0 : Int32)) hx hb hr hlocks (by first | rfl | exact zi_narC (ht.2 _)) (show (0 : Int32).toInt = chZ t i from (by unfold chZ; split <;> first | rfl | omega)) dX1_characterAt_31
    · refine lv_iload_n hx hb dX1_characterAt_12 rfl (lv_at hl 1 rfl) ?_
      refine lv_aload_n hx hb dX1_characterAt_13 rfl (lv_at hl 0 rfl) ?_
      refine z_get hx hb hts iwX1_characterAt_1 hown hK hT.1 rfl 1 (by decide) flX1_characterAt_9 rfl (v := .ref (x0 + 1)) rfl dX1_characterAt_14 ?_
      refine z_alen hx hb hK 1 hT.2 rfl (v := (60 : Int32)) rfl dX1_characterAt_17 ?_
      refine z_icmp_ge (tgt := 30) hx hb e_x kI_60 dX1_characterAt_18 (by decide) (fun c_3 => ?_) (fun c_3 => ?_)
      · refine lv_iconst (v := (0 : Int32)) hx hb dX1_characterAt_30 (by decide) ?_
        exact z_rc (v := (0 : Int32)) hx hb hr hlocks (by first | rfl | exact zi_narC (ht.2 _)) (show (0 : Int32).toInt = chZ t i from (by unfold chZ; split <;> first | rfl | omega)) dX1_characterAt_31
      · refine lv_aload_n hx hb dX1_characterAt_21 rfl (lv_at hl 0 rfl) ?_
        refine z_get hx hb hts iwX1_characterAt_1 hown hK hT.1 rfl 1 (by decide) flX1_characterAt_9 rfl (v := .ref (x0 + 1)) rfl dX1_characterAt_22 ?_
        refine lv_iload_n hx hb dX1_characterAt_25 rfl (lv_at hl 1 rfl) ?_
        refine z_cald (f := t.2) hx hb hK 1 hT.2 rfl e_x (by omega) dX1_characterAt_26 ?_
        refine lv_goto (tgt := 31) hx hb dX1_characterAt_27 (by decide) ?_
        exact z_rc (v := t.2 i.toNat) hx hb hr hlocks (by first | rfl | exact zi_narC (ht.2 _)) (show (t.2 i.toNat).toInt = chZ t i from (by unfold chZ; split <;> first | rfl | omega)) dX1_characterAt_31

abbrev rmX1_startsOrder : Room := { frames := 1, cells := 0, slots := 0, locals := 21 }
theorem hyX1_startsOrder : yX1_startsOrder.cls = RX1 ∧ yX1_startsOrder.cls ≠ "java/lang/invoke/MethodHandle" ∧ yX1_startsOrder.cls ≠ "java/lang/invoke/VarHandle" ∧ (parseMethodDescriptor yX1_startsOrder.desc).map (fun d => d.parameters.length) = some 1 := by decide +kernel
set_option maxHeartbeats 4000000 in
set_option maxRecDepth 100000 in
theorem kX1_startsOrder (l : Launch) (G : xG) (x0 : Nat) (t : TD) (x : Int32) (i : Int) (e_x : x.toInt = i) (ht : textOk t) : Met l yX1_startsOrder wsX1_startsOrder rmX1_startsOrder (va_Pc [.ref x0, .int x] (zPre G (fun H => TX G H x0 t))) (zS (fun v => isB v (chZ t i = 112 ∨ slP (chZ t i)))) 0 0 zno := by
  refine z_ofW (cc := cX1_startsOrder) (maxL := 3) (ret := some .boolean) (by decide +kernel) rfl (Nat.le_of_ble_eq_true rfl) ?_
  intro p e s m below meth c hx hb hml hr hts hown hlocks hK hP ls hl
  have hT := hP
  have hown : s.vm.findClass RX1 = some m.cls := hown
  have hl : lv_has ls 3 [(0, .ref x0), (1, .int x)] := hl
  refine lv_aload_n hx hb dX1_startsOrder_0 rfl (lv_at hl 0 rfl) ?_
  refine lv_iload_n hx hb dX1_startsOrder_1 rfl (lv_at hl 1 rfl) ?_
  refine z_cV (As := [.int x]) (rest := []) ⟨hx, hb, hml, hown, hts⟩ (kX1_characterAt l G x0 t x i e_x (by first | assumption | omega)) (cwV 1 hts gX1_startsOrder_X1_characterAt rfl rfl rfl hyX1_characterAt ⟨Nat.le_of_ble_eq_true rfl, Nat.le_of_ble_eq_true rfl⟩) hK hT hT.1 rfl rfl hl.1 rfl (Nat.le_of_ble_eq_true rfl) dX1_startsOrder_2 ⟨Nat.zero_le _, Nat.zero_le _⟩ (fun z1 e1 => ?_)
  have e1 : z1.toInt = chZ t i := e1
  refine lv_istore_n hx hb dX1_startsOrder_5 rfl hl (by decide) rfl (fun ls hl => ?_)
  have hl : lv_has ls 3 [(2, .int z1), (0, .ref x0), (1, .int x)] := hl
  refine lv_iload_n hx hb dX1_startsOrder_6 rfl (lv_at hl 0 rfl) ?_
  refine lv_bipush (v := (112 : Int32)) hx hb dX1_startsOrder_7 (by decide) ?_
  refine z_icmp_eq (tgt := 19) hx hb e1 kI_112 dX1_startsOrder_9 (by decide) (fun c_2 => ?_) (fun c_2 => ?_)
  · refine lv_iconst (v := (1 : Int32)) hx hb dX1_startsOrder_19 (by decide) ?_
    refine lv_goto (tgt := 24) hx hb dX1_startsOrder_20 (by decide) ?_
    exact z_rb (v := (1 : Int32)) hx hb hr hlocks rfl (isB.t rfl (by first | exact Or.inl (by assumption) | exact Or.inr (by assumption))) dX1_startsOrder_24
  · refine lv_iload_n hx hb dX1_startsOrder_12 rfl (lv_at hl 0 rfl) ?_
    refine z_cS (As := [.int z1]) (rest := []) ⟨hx, hb, hml, hown, hts⟩ (kX1_isStationLetter l G z1 (chZ t i) e1) (va_cwS 1 hts gX1_startsOrder_X1_isStationLetter rfl rfl rfl hyX1_isStationLetter ⟨Nat.le_of_ble_eq_true rfl, Nat.le_of_ble_eq_true rfl⟩) hK trivial rfl hl.1 rfl (Nat.le_of_ble_eq_true rfl) dX1_startsOrder_13 ⟨Nat.zero_le _, Nat.zero_le _⟩ (fun z3 e3 => ?_)
    have e3 : isB z3 (slP (chZ t i)) := e3
    refine z_ifb_eq (tgt := 23) hx hb e3 dX1_startsOrder_16 (by decide) (fun c_4 => ?_) (fun c_4 => ?_)
    · refine lv_iconst (v := (0 : Int32)) hx hb dX1_startsOrder_23 (by decide) ?_
      exact z_rb (v := (0 : Int32)) hx hb hr hlocks rfl (isB.f rfl (fun q => q.elim (by assumption) (by assumption))) dX1_startsOrder_24
    · refine lv_iconst (v := (1 : Int32)) hx hb dX1_startsOrder_19 (by decide) ?_
      refine lv_goto (tgt := 24) hx hb dX1_startsOrder_20 (by decide) ?_
      exact z_rb (v := (1 : Int32)) hx hb hr hlocks rfl (isB.t rfl (by first | exact Or.inl (by assumption) | exact Or.inr (by assumption))) dX1_startsOrder_24

abbrev rmX1_faultAt : Room := { frames := 3, cells := 0, slots := 0, locals := 61 }
theorem iwX1_faultAt_1 : ∀ w ∈ wsX10, w ∈ wsX1_faultAt := fun _ h => List.mem_cons_of_mem _ (List.mem_append_right _ h)
theorem flX1_faultAt_15 : Cond.fieldLink RX1 15 "SiltedFloats$OrderText" "length" "I" ∈ wsX1_faultAt := by decide +kernel
theorem hyX1_faultAt : yX1_faultAt.cls = RX1 ∧ yX1_faultAt.cls ≠ "java/lang/invoke/MethodHandle" ∧ yX1_faultAt.cls ≠ "java/lang/invoke/VarHandle" ∧ (parseMethodDescriptor yX1_faultAt.desc).map (fun d => d.parameters.length) = some 0 := by decide +kernel
set_option maxHeartbeats 4000000 in
set_option maxRecDepth 100000 in
theorem kX1_faultAt (l : Launch) (G : xG) (x0 : Nat) (t : TD) (ht : textOk t) : Met l yX1_faultAt wsX1_faultAt rmX1_faultAt (va_Pc [.ref x0] (zPre G (fun H => TX G H x0 t))) (zS (fun v => v.toInt = ftZ t)) 0 0 zno := by
  refine z_ofW (cc := cX1_faultAt) (maxL := 3) (ret := some .int) (by decide +kernel) rfl (Nat.le_of_ble_eq_true rfl) ?_
  intro p e s m below meth c hx hb hml hr hts hown hlocks hK hP ls hl
  have hT := hP
  have hown : s.vm.findClass RX1 = some m.cls := hown
  have hl : lv_has ls 3 [(0, .ref x0)] := hl
  have hts1 := ht.1
  have cut4 : ∀ (n4 : Nat), ∀ (x1 : Int32) (i1 : Int) (_ : x1.toInt = i1) (x2 : Int32) (i2 : Int) (_ : x2.toInt = i2), (t.1.toInt - i2).toNat < n4 → (0 ≤ i2 ∧ i2 ≤ t.1.toInt) → (i1 = dueN t i2.toNat) → (nthZ (fun j => dueN t (((j : Nat) : Int) + 1).toNat = 5) 0 i2.toNat = -1) → (cntZ (fun j => dueN t (((j : Nat) : Int) + 1).toNat = 5) i2.toNat = 0) → ∀ ls : Array Slot, lv_has ls 3 [(0, .ref x0), (1, .int x1), (2, .int x2)] → W p l e rmX1_faultAt s m ([.ref x0] : List Value).toArray below meth c s.heap [] 0 0 (MQ below (zS (fun v => v.toInt = ftZ t)) ([.ref x0] : List Value).toArray s 0 0 zno) (F0 m 4 ls []) := by
    intro n4
    induction n4 with
    | zero =>
      intro x1 i1 hx1 x2 i2 hx2 hmu4 hi4_0 hi4_1 hi4_2 hi4_3 ls hl
      exact absurd hmu4 (Nat.not_lt_zero _)
    | succ n4 ih4 =>
      intro x1 i1 hx1 x2 i2 hx2 hmu4 hi4_0 hi4_1 hi4_2 hi4_3 ls hl
      have hts1 := ht.1
      have hnn : ((i2.toNat : Nat) : Int) = i2 := by omega
      have hdn := dueN_s t (i := i2) (by omega)
      have hdb := dueN_b t i2.toNat
      refine lv_iload_n hx hb dX1_faultAt_4 rfl (lv_at hl 2 rfl) ?_
      refine lv_aload_n hx hb dX1_faultAt_5 rfl (lv_at hl 0 rfl) ?_
      refine z_get hx hb hts iwX1_faultAt_1 hown hK hT.1 rfl 0 (by decide) flX1_faultAt_15 rfl (v := .int t.1) rfl dX1_faultAt_6 ?_
      refine z_icmp_ge (tgt := 35) hx hb hx2 rfl dX1_faultAt_9 (by decide) (fun c_1 => ?_) (fun c_1 => ?_)
      · refine lv_iload_n hx hb dX1_faultAt_35 rfl (lv_at hl 1 rfl) ?_
        refine lv_iconst (v := (4 : Int32)) hx hb dX1_faultAt_36 (by decide) ?_
        refine z_icmp_eq (tgt := 45) hx hb hx1 kI_4 dX1_faultAt_37 (by decide) (fun c_2 => ?_) (fun c_2 => ?_)
        · refine lv_iconst (v := (-1 : Int32)) hx hb dX1_faultAt_45 (by decide) ?_
          refine lv_goto (tgt := 53) hx hb dX1_faultAt_46 (by decide) ?_
          exact z_ri (v := (-1 : Int32)) hx hb hr hlocks (show (-1 : Int32).toInt = ftZ t from (by rw [ftZ_end (by omega) hi4_2, if_pos (by omega)]; rfl)) dX1_faultAt_53
        · refine lv_iload_n hx hb dX1_faultAt_40 rfl (lv_at hl 1 rfl) ?_
          refine lv_iconst (v := (2 : Int32)) hx hb dX1_faultAt_41 (by decide) ?_
          refine z_icmp_ne (tgt := 49) hx hb hx1 kI_2 dX1_faultAt_42 (by decide) (fun c_3 => ?_) (fun c_3 => ?_)
          · refine lv_aload_n hx hb dX1_faultAt_49 rfl (lv_at hl 0 rfl) ?_
            refine z_get hx hb hts iwX1_faultAt_1 hown hK hT.1 rfl 0 (by decide) flX1_faultAt_15 rfl (v := .int t.1) rfl dX1_faultAt_50 ?_
            exact z_ri (v := t.1) hx hb hr hlocks (show t.1.toInt = ftZ t from (by rw [ftZ_end (by omega) hi4_2, if_neg (by omega)])) dX1_faultAt_53
          · refine lv_iconst (v := (-1 : Int32)) hx hb dX1_faultAt_45 (by decide) ?_
            refine lv_goto (tgt := 53) hx hb dX1_faultAt_46 (by decide) ?_
            exact z_ri (v := (-1 : Int32)) hx hb hr hlocks (show (-1 : Int32).toInt = ftZ t from (by rw [ftZ_end (by omega) hi4_2, if_pos (by omega)]; rfl)) dX1_faultAt_53
      · refine lv_iload_n hx hb dX1_faultAt_12 rfl (lv_at hl 1 rfl) ?_
        refine lv_aload_n hx hb dX1_faultAt_13 rfl (lv_at hl 0 rfl) ?_
        refine lv_iload_n hx hb dX1_faultAt_14 rfl (lv_at hl 2 rfl) ?_
        refine z_cV (As := [.int x2]) (rest := [.int x1]) ⟨hx, hb, hml, hown, hts⟩ (kX1_characterAt l G x0 t x2 i2 hx2 (by first | assumption | omega)) (cwV 1 hts gX1_faultAt_X1_characterAt rfl rfl rfl hyX1_characterAt ⟨Nat.le_of_ble_eq_true rfl, Nat.le_of_ble_eq_true rfl⟩) hK hT hT.1 rfl rfl hl.1 rfl (Nat.le_of_ble_eq_true rfl) dX1_faultAt_15 ⟨Nat.zero_le _, Nat.zero_le _⟩ (fun z4 e4 => ?_)
        have e4 : z4.toInt = chZ t i2 := e4
        refine z_cS (As := [.int x1, .int z4]) (rest := []) ⟨hx, hb, hml, hown, hts⟩ (kX1_dueBehind l G x1 i1 hx1 z4 (chZ t i2) e4) (va_cwS 2 hts gX1_faultAt_X1_dueBehind rfl rfl rfl hyX1_dueBehind ⟨Nat.le_of_ble_eq_true rfl, Nat.le_of_ble_eq_true rfl⟩) hK trivial rfl hl.1 rfl (Nat.le_of_ble_eq_true rfl) dX1_faultAt_18 ⟨Nat.zero_le _, Nat.zero_le _⟩ (fun z5 e5 => ?_)
        have e5 : z5.toInt = dbZ i1 (chZ t i2) := e5
        refine lv_istore_n hx hb dX1_faultAt_21 rfl hl (by decide) rfl (fun ls hl => ?_)
        have hl : lv_has ls 3 [(1, .int z5), (0, .ref x0), (2, .int x2)] := hl
        refine lv_iload_n hx hb dX1_faultAt_22 rfl (lv_at hl 0 rfl) ?_
        refine lv_iconst (v := (5 : Int32)) hx hb dX1_faultAt_23 (by decide) ?_
        refine z_icmp_ne (tgt := 29) hx hb e5 kI_5 dX1_faultAt_24 (by decide) (fun c_6 => ?_) (fun c_6 => ?_)
        · refine z_iinc (k := 2) hx hb dX1_faultAt_29 hl rfl hx2 (show (Int32.ofInt 1).toInt = (1 : Int) from rfl) (by omega) (by decide) (fun z7 e7 ls hl => ?_)
          have hl : lv_has ls 3 [(2, .int z7), (1, .int z5), (0, .ref x0)] := hl
          refine lv_goto (tgt := 4) hx hb dX1_faultAt_32 (by decide) ?_
          exact ih4 z5 (dbZ i1 (chZ t i2)) e5 z7 (i2 + (1 : Int)) e7 (by omega) (by omega) (by rw [hdn, ← hi4_1]) (nthZ_step (by omega) hi4_2 (fun q => by have q1 := q.1; rw [hnn, hdn, ← hi4_1] at q1; omega)) (by rw [cntZ_f (by omega) (by rw [hnn, hdn, ← hi4_1]; assumption)]; exact hi4_3) ls (lv_sub hl [2, 1, 0] rfl)
        · refine lv_iload_n hx hb dX1_faultAt_27 rfl (lv_at hl 2 rfl) ?_
          exact z_ri (v := x2) hx hb hr hlocks (show x2.toInt = ftZ t from (by rw [hx2, ftZ_hit (by omega) (by omega) hi4_2 hi4_3 (by rw [hdn, ← hi4_1]; assumption)])) dX1_faultAt_28
  refine lv_iconst (v := (0 : Int32)) hx hb dX1_faultAt_0 (by decide) ?_
  refine lv_istore_n hx hb dX1_faultAt_1 rfl hl (by decide) rfl (fun ls hl => ?_)
  have hl : lv_has ls 3 [(1, .int (0 : Int32)), (0, .ref x0)] := hl
  refine lv_iconst (v := (0 : Int32)) hx hb dX1_faultAt_2 (by decide) ?_
  refine lv_istore_n hx hb dX1_faultAt_3 rfl hl (by decide) rfl (fun ls hl => ?_)
  have hl : lv_has ls 3 [(2, .int (0 : Int32)), (1, .int (0 : Int32)), (0, .ref x0)] := hl
  exact cut4 (((t.1.toInt - (0 : Int)).toNat) + 1) (0 : Int32) (0 : Int) kI_0 (0 : Int32) (0 : Int) kI_0 (Nat.lt_succ_self _) (by omega) rfl rfl rfl ls (lv_sub hl [2, 1, 0] rfl)

abbrev rmX1_numberFrom : Room := { frames := 1, cells := 0, slots := 0, locals := 21 }
theorem iwX1_numberFrom_1 : ∀ w ∈ wsX10, w ∈ wsX1_numberFrom := fun _ h => List.mem_cons_of_mem _ (List.mem_append_right _ h)
theorem flX1_numberFrom_15 : Cond.fieldLink RX1 15 "SiltedFloats$OrderText" "length" "I" ∈ wsX1_numberFrom := by decide +kernel
theorem hyX1_numberFrom : yX1_numberFrom.cls = RX1 ∧ yX1_numberFrom.cls ≠ "java/lang/invoke/MethodHandle" ∧ yX1_numberFrom.cls ≠ "java/lang/invoke/VarHandle" ∧ (parseMethodDescriptor yX1_numberFrom.desc).map (fun d => d.parameters.length) = some 1 := by decide +kernel
set_option maxHeartbeats 4000000 in
set_option maxRecDepth 100000 in
theorem kX1_numberFrom (l : Launch) (G : xG) (x0 : Nat) (t : TD) (x : Int32) (i : Int) (e_x : x.toInt = i) (ht : textOk t) (hi : 0 ≤ i ∧ i ≤ 1000) (hnd : ¬ (i + 2 < t.1.toInt ∧ dgP (chZ t (i + 2)))) : Met l yX1_numberFrom wsX1_numberFrom rmX1_numberFrom (va_Pc [.ref x0, .int x] (zPre G (fun H => TX G H x0 t))) (zS (fun v => v.toInt = nmZ t i)) 0 0 zno := by
  refine z_ofW (cc := cX1_numberFrom) (maxL := 4) (ret := some .int) (by decide +kernel) rfl (Nat.le_of_ble_eq_true rfl) ?_
  intro p e s m below meth c hx hb hml hr hts hown hlocks hK hP ls hl
  have hT := hP
  have hown : s.vm.findClass RX1 = some m.cls := hown
  have hl : lv_has ls 4 [(0, .ref x0), (1, .int x)] := hl
  have cut4 : ∀ (n4 : Nat), ∀ (x2 : Int32) (i2 : Int) (_ : x2.toInt = i2) (x3 : Int32) (i3 : Int) (_ : x3.toInt = i3), (i + 3 - i3).toNat < n4 → (nmA t i (i3 - i) i2) → ∀ ls : Array Slot, lv_has ls 4 [(0, .ref x0), (1, .int x), (2, .int x2), (3, .int x3)] → W p l e rmX1_numberFrom s m ([.ref x0, .int x] : List Value).toArray below meth c s.heap [] 0 0 (MQ below (zS (fun v => v.toInt = nmZ t i)) ([.ref x0, .int x] : List Value).toArray s 0 0 zno) (F0 m 4 ls []) := by
    intro n4
    induction n4 with
    | zero =>
      intro x2 i2 hx2 x3 i3 hx3 hmu4 hi4_0 ls hl
      exact absurd hmu4 (Nat.not_lt_zero _)
    | succ n4 ih4 =>
      intro x2 i2 hx2 x3 i3 hx3 hmu4 hi4_0 ls hl
      have hna := nmA_b hi4_0
      have hcb := chZ_b ht i3
      refine lv_iload_n hx hb dX1_numberFrom_4 rfl (lv_at hl 3 rfl) ?_
      refine lv_aload_n hx hb dX1_numberFrom_5 rfl (lv_at hl 0 rfl) ?_
      refine z_get hx hb hts iwX1_numberFrom_1 hown hK hT.1 rfl 0 (by decide) flX1_numberFrom_15 rfl (v := .int t.1) rfl dX1_numberFrom_6 ?_
      refine z_icmp_ge (tgt := 43) hx hb hx3 rfl dX1_numberFrom_9 (by decide) (fun c_1 => ?_) (fun c_1 => ?_)
      · refine lv_iload_n hx hb dX1_numberFrom_43 rfl (lv_at hl 2 rfl) ?_
        exact z_ri (v := x2) hx hb hr hlocks (show x2.toInt = nmZ t i from (by rw [hx2]; exact nmA_e (j := i3) hi4_0 (by omega) (fun q => by first | exact absurd q.2 (by assumption) | omega))) dX1_numberFrom_44
      · refine lv_aload_n hx hb dX1_numberFrom_12 rfl (lv_at hl 0 rfl) ?_
        refine lv_iload_n hx hb dX1_numberFrom_13 rfl (lv_at hl 3 rfl) ?_
        refine z_cV (As := [.int x3]) (rest := []) ⟨hx, hb, hml, hown, hts⟩ (kX1_characterAt l G x0 t x3 i3 hx3 (by first | assumption | omega)) (cwV 1 hts gX1_numberFrom_X1_characterAt rfl rfl rfl hyX1_characterAt ⟨Nat.le_of_ble_eq_true rfl, Nat.le_of_ble_eq_true rfl⟩) hK hT hT.1 rfl rfl hl.1 rfl (Nat.le_of_ble_eq_true rfl) dX1_numberFrom_14 ⟨Nat.zero_le _, Nat.zero_le _⟩ (fun z2 e2 => ?_)
        have e2 : z2.toInt = chZ t i3 := e2
        refine z_cS (As := [.int z2]) (rest := []) ⟨hx, hb, hml, hown, hts⟩ (kX1_isDigit l G z2 (chZ t i3) e2) (va_cwS 1 hts gX1_numberFrom_X1_isDigit rfl rfl rfl hyX1_isDigit ⟨Nat.le_of_ble_eq_true rfl, Nat.le_of_ble_eq_true rfl⟩) hK trivial rfl hl.1 rfl (Nat.le_of_ble_eq_true rfl) dX1_numberFrom_17 ⟨Nat.zero_le _, Nat.zero_le _⟩ (fun z3 e3 => ?_)
        have e3 : isB z3 (dgP (chZ t i3)) := e3
        refine z_ifb_eq (tgt := 43) hx hb e3 dX1_numberFrom_20 (by decide) (fun c_4 => ?_) (fun c_4 => ?_)
        · refine lv_iload_n hx hb dX1_numberFrom_43 rfl (lv_at hl 2 rfl) ?_
          exact z_ri (v := x2) hx hb hr hlocks (show x2.toInt = nmZ t i from (by rw [hx2]; exact nmA_e (j := i3) hi4_0 (by omega) (fun q => by first | exact absurd q.2 (by assumption) | omega))) dX1_numberFrom_44
        · have hs9 := nmA_s (j := i3) hi4_0 (by omega) (by omega) c_4 hnd
          have hna9 := nmA_b hs9
          refine lv_bipush (v := (10 : Int32)) hx hb dX1_numberFrom_23 (by decide) ?_
          refine lv_iload_n hx hb dX1_numberFrom_25 rfl (lv_at hl 2 rfl) ?_
          refine z_imul hx hb kI_10 hx2 dX1_numberFrom_26 (by omega) (fun z5 e5 => ?_)
          refine lv_aload_n hx hb dX1_numberFrom_27 rfl (lv_at hl 0 rfl) ?_
          refine lv_iload_n hx hb dX1_numberFrom_28 rfl (lv_at hl 3 rfl) ?_
          refine z_cV (As := [.int x3]) (rest := [.int z5]) ⟨hx, hb, hml, hown, hts⟩ (kX1_characterAt l G x0 t x3 i3 hx3 (by first | assumption | omega)) (cwV 1 hts gX1_numberFrom_X1_characterAt rfl rfl rfl hyX1_characterAt ⟨Nat.le_of_ble_eq_true rfl, Nat.le_of_ble_eq_true rfl⟩) hK hT hT.1 rfl rfl hl.1 rfl (Nat.le_of_ble_eq_true rfl) dX1_numberFrom_29 ⟨Nat.zero_le _, Nat.zero_le _⟩ (fun z6 e6 => ?_)
          have e6 : z6.toInt = chZ t i3 := e6
          refine z_iadd hx hb e5 e6 dX1_numberFrom_32 (by omega) (fun z7 e7 => ?_)
          refine lv_bipush (v := (48 : Int32)) hx hb dX1_numberFrom_33 (by decide) ?_
          refine z_isub hx hb e7 kI_48 dX1_numberFrom_35 (by omega) (fun z8 e8 => ?_)
          refine lv_istore_n hx hb dX1_numberFrom_36 rfl hl (by decide) rfl (fun ls hl => ?_)
          have hl : lv_has ls 4 [(2, .int z8), (0, .ref x0), (1, .int x), (3, .int x3)] := hl
          refine z_iinc (k := 3) hx hb dX1_numberFrom_37 hl rfl hx3 (show (Int32.ofInt 1).toInt = (1 : Int) from rfl) (by omega) (by decide) (fun z9 e9 ls hl => ?_)
          have hl : lv_has ls 4 [(3, .int z9), (2, .int z8), (0, .ref x0), (1, .int x)] := hl
          refine lv_goto (tgt := 4) hx hb dX1_numberFrom_40 (by decide) ?_
          exact ih4 z8 ((((10 : Int) * i2) + (chZ t i3)) - (48 : Int)) e8 z9 (i3 + (1 : Int)) e9 (by omega) (by rw [show i3 + 1 - i = i3 - i + 1 by omega]; exact hs9) ls (lv_sub hl [2, 3, 1, 0] rfl)
  refine lv_iconst (v := (0 : Int32)) hx hb dX1_numberFrom_0 (by decide) ?_
  refine lv_istore_n hx hb dX1_numberFrom_1 rfl hl (by decide) rfl (fun ls hl => ?_)
  have hl : lv_has ls 4 [(2, .int (0 : Int32)), (0, .ref x0), (1, .int x)] := hl
  refine lv_iload_n hx hb dX1_numberFrom_2 rfl (lv_at hl 2 rfl) ?_
  refine lv_istore_n hx hb dX1_numberFrom_3 rfl hl (by decide) rfl (fun ls hl => ?_)
  have hl : lv_has ls 4 [(3, .int x), (2, .int (0 : Int32)), (0, .ref x0), (1, .int x)] := hl
  exact cut4 (((i + 3 - i).toNat) + 1) (0 : Int32) (0 : Int) kI_0 x i e_x (Nat.lt_succ_self _) (Or.inl ⟨by omega, rfl⟩) ls (lv_sub hl [2, 3, 1, 0] rfl)

abbrev rmX1_hoursInAll : Room := { frames := 2, cells := 0, slots := 0, locals := 44 }
theorem iwX1_hoursInAll_1 : ∀ w ∈ wsX10, w ∈ wsX1_hoursInAll := fun _ h => List.mem_cons_of_mem _ (List.mem_append_right _ h)
theorem flX1_hoursInAll_15 : Cond.fieldLink RX1 15 "SiltedFloats$OrderText" "length" "I" ∈ wsX1_hoursInAll := by decide +kernel
theorem hyX1_hoursInAll : yX1_hoursInAll.cls = RX1 ∧ yX1_hoursInAll.cls ≠ "java/lang/invoke/MethodHandle" ∧ yX1_hoursInAll.cls ≠ "java/lang/invoke/VarHandle" ∧ (parseMethodDescriptor yX1_hoursInAll.desc).map (fun d => d.parameters.length) = some 0 := by decide +kernel
set_option maxHeartbeats 4000000 in
set_option maxRecDepth 100000 in
theorem kX1_hoursInAll (l : Launch) (G : xG) (x0 : Nat) (t : TD) (ht : textOk t) (hnd : ∀ i : Int, 0 ≤ i → chZ t i = 112 → ¬ (i + 1 + 2 < t.1.toInt ∧ dgP (chZ t (i + 1 + 2)))) : Met l yX1_hoursInAll wsX1_hoursInAll rmX1_hoursInAll (va_Pc [.ref x0] (zPre G (fun H => TX G H x0 t))) (zS (fun v => v.toInt = sumZ (haF t) 0 t.1.toInt.toNat)) 0 0 zno := by
  refine z_ofW (cc := cX1_hoursInAll) (maxL := 3) (ret := some .int) (by decide +kernel) rfl (Nat.le_of_ble_eq_true rfl) ?_
  intro p e s m below meth c hx hb hml hr hts hown hlocks hK hP ls hl
  have hT := hP
  have hown : s.vm.findClass RX1 = some m.cls := hown
  have hl : lv_has ls 3 [(0, .ref x0)] := hl
  have hts1 := ht.1
  have cut4 : ∀ (n4 : Nat), ∀ (x1 : Int32) (i1 : Int) (_ : x1.toInt = i1) (x2 : Int32) (i2 : Int) (_ : x2.toInt = i2), (t.1.toInt - i2).toNat < n4 → (0 ≤ i2 ∧ i2 ≤ t.1.toInt) → (i1 = sumZ (haF t) 0 (i2 - 0).toNat) → (0 ≤ i1 ∧ i1 ≤ 99 * i2) → ∀ ls : Array Slot, lv_has ls 3 [(0, .ref x0), (1, .int x1), (2, .int x2)] → W p l e rmX1_hoursInAll s m ([.ref x0] : List Value).toArray below meth c s.heap [] 0 0 (MQ below (zS (fun v => v.toInt = sumZ (haF t) 0 t.1.toInt.toNat)) ([.ref x0] : List Value).toArray s 0 0 zno) (F0 m 4 ls []) := by
    intro n4
    induction n4 with
    | zero =>
      intro x1 i1 hx1 x2 i2 hx2 hmu4 hi4_0 hi4_1 hi4_2 ls hl
      exact absurd hmu4 (Nat.not_lt_zero _)
    | succ n4 ih4 =>
      intro x1 i1 hx1 x2 i2 hx2 hmu4 hi4_0 hi4_1 hi4_2 ls hl
      have hab := haF_b t i2
      refine lv_iload_n hx hb dX1_hoursInAll_4 rfl (lv_at hl 2 rfl) ?_
      refine lv_aload_n hx hb dX1_hoursInAll_5 rfl (lv_at hl 0 rfl) ?_
      refine z_get hx hb hts iwX1_hoursInAll_1 hown hK hT.1 rfl 0 (by decide) flX1_hoursInAll_15 rfl (v := .int t.1) rfl dX1_hoursInAll_6 ?_
      refine z_icmp_ge (tgt := 38) hx hb hx2 rfl dX1_hoursInAll_9 (by decide) (fun c_1 => ?_) (fun c_1 => ?_)
      · refine lv_iload_n hx hb dX1_hoursInAll_38 rfl (lv_at hl 1 rfl) ?_
        exact z_ri (v := x1) hx hb hr hlocks (show x1.toInt = sumZ (haF t) 0 t.1.toInt.toNat from (by rw [hx1, hi4_1]; congr 1; omega)) dX1_hoursInAll_39
      · refine lv_aload_n hx hb dX1_hoursInAll_12 rfl (lv_at hl 0 rfl) ?_
        refine lv_iload_n hx hb dX1_hoursInAll_13 rfl (lv_at hl 2 rfl) ?_
        refine z_cV (As := [.int x2]) (rest := []) ⟨hx, hb, hml, hown, hts⟩ (kX1_characterAt l G x0 t x2 i2 hx2 (by first | assumption | omega)) (cwV 1 hts gX1_hoursInAll_X1_characterAt rfl rfl rfl hyX1_characterAt ⟨Nat.le_of_ble_eq_true rfl, Nat.le_of_ble_eq_true rfl⟩) hK hT hT.1 rfl rfl hl.1 rfl (Nat.le_of_ble_eq_true rfl) dX1_hoursInAll_14 ⟨Nat.zero_le _, Nat.zero_le _⟩ (fun z2 e2 => ?_)
        have e2 : z2.toInt = chZ t i2 := e2
        refine lv_bipush (v := (112 : Int32)) hx hb dX1_hoursInAll_17 (by decide) ?_
        refine z_icmp_ne (tgt := 32) hx hb e2 kI_112 dX1_hoursInAll_19 (by decide) (fun c_3 => ?_) (fun c_3 => ?_)
        · have hh9 : haF t i2 = 0 := by unfold haF; rw [if_neg c_3]
          refine z_iinc (k := 2) hx hb dX1_hoursInAll_32 hl rfl hx2 (show (Int32.ofInt 1).toInt = (1 : Int) from rfl) (by omega) (by decide) (fun z4 e4 ls hl => ?_)
          have hl : lv_has ls 3 [(2, .int z4), (0, .ref x0), (1, .int x1)] := hl
          refine lv_goto (tgt := 4) hx hb dX1_hoursInAll_35 (by decide) ?_
          exact ih4 x1 i1 hx1 z4 (i2 + (1 : Int)) e4 (by omega) (by omega) (by rw [sumZ_s (by omega), hh9]; omega) (by omega) ls (lv_sub hl [1, 2, 0] rfl)
        · have hh9 : haF t i2 = nmZ t (i2 + 1) := by unfold haF; rw [if_pos c_3]
          refine lv_iload_n hx hb dX1_hoursInAll_22 rfl (lv_at hl 1 rfl) ?_
          refine lv_aload_n hx hb dX1_hoursInAll_23 rfl (lv_at hl 0 rfl) ?_
          refine lv_iload_n hx hb dX1_hoursInAll_24 rfl (lv_at hl 2 rfl) ?_
          refine lv_iconst (v := (1 : Int32)) hx hb dX1_hoursInAll_25 (by decide) ?_
          refine z_iadd hx hb hx2 kI_1 dX1_hoursInAll_26 (by omega) (fun z5 e5 => ?_)
          refine z_cV (As := [.int z5]) (rest := [.int x1]) ⟨hx, hb, hml, hown, hts⟩ (kX1_numberFrom l G x0 t z5 (i2 + (1 : Int)) e5 (by first | assumption | omega) (by first | assumption | omega) (hnd i2 (by omega) (by assumption))) (cwV 1 hts gX1_hoursInAll_X1_numberFrom rfl rfl rfl hyX1_numberFrom ⟨Nat.le_of_ble_eq_true rfl, Nat.le_of_ble_eq_true rfl⟩) hK hT hT.1 rfl rfl hl.1 rfl (Nat.le_of_ble_eq_true rfl) dX1_hoursInAll_27 ⟨Nat.zero_le _, Nat.zero_le _⟩ (fun z6 e6 => ?_)
          have e6 : z6.toInt = nmZ t (i2 + (1 : Int)) := e6
          refine z_iadd hx hb hx1 e6 dX1_hoursInAll_30 (by omega) (fun z7 e7 => ?_)
          refine lv_istore_n hx hb dX1_hoursInAll_31 rfl hl (by decide) rfl (fun ls hl => ?_)
          have hl : lv_has ls 3 [(1, .int z7), (0, .ref x0), (2, .int x2)] := hl
          refine z_iinc (k := 2) hx hb dX1_hoursInAll_32 hl rfl hx2 (show (Int32.ofInt 1).toInt = (1 : Int) from rfl) (by omega) (by decide) (fun z8 e8 ls hl => ?_)
          have hl : lv_has ls 3 [(2, .int z8), (1, .int z7), (0, .ref x0)] := hl
          refine lv_goto (tgt := 4) hx hb dX1_hoursInAll_35 (by decide) ?_
          exact ih4 z7 (i1 + (nmZ t (i2 + (1 : Int)))) e7 z8 (i2 + (1 : Int)) e8 (by omega) (by omega) (by rw [sumZ_s (by omega), hh9]; omega) (by omega) ls (lv_sub hl [2, 1, 0] rfl)
  refine lv_iconst (v := (0 : Int32)) hx hb dX1_hoursInAll_0 (by decide) ?_
  refine lv_istore_n hx hb dX1_hoursInAll_1 rfl hl (by decide) rfl (fun ls hl => ?_)
  have hl : lv_has ls 3 [(1, .int (0 : Int32)), (0, .ref x0)] := hl
  refine lv_iconst (v := (0 : Int32)) hx hb dX1_hoursInAll_2 (by decide) ?_
  refine lv_istore_n hx hb dX1_hoursInAll_3 rfl hl (by decide) rfl (fun ls hl => ?_)
  have hl : lv_has ls 3 [(2, .int (0 : Int32)), (1, .int (0 : Int32)), (0, .ref x0)] := hl
  exact cut4 (((t.1.toInt - (0 : Int)).toNat) + 1) (0 : Int32) (0 : Int) kI_0 (0 : Int32) (0 : Int) kI_0 (Nat.lt_succ_self _) (by omega) rfl (by omega) ls (lv_sub hl [2, 1, 0] rfl)
