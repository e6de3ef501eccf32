abbrev rmX4_isWithin : Room := { frames := 0, cells := 0, slots := 0, locals := 0 }
theorem hyX4_isWithin : yX4_isWithin.cls ≠ "java/lang/invoke/MethodHandle" ∧ yX4_isWithin.cls ≠ "java/lang/invoke/VarHandle" ∧ (parseMethodDescriptor yX4_isWithin.desc).map (fun d => d.parameters.length) = some 3 := by decide +kernel
set_option maxHeartbeats 4000000 in
set_option maxRecDepth 100000 in
theorem kX4_isWithin (l : Launch) (G : xG) (x : Int32) (n : Int) (e_x : x.toInt = n) (y : Int32) (lo : Int) (e_y : y.toInt = lo) (z : Int32) (hi : Int) (e_z : z.toInt = hi) : Met l yX4_isWithin wsX4_isWithin rmX4_isWithin (va_Pc [.int x, .int y, .int z] (zPre G (fun H => True))) (zS (fun v => isB v (lo ≤ n ∧ n ≤ hi))) 0 0 zno := by
  refine z_ofW (cc := cX4_isWithin) (maxL := 3) (ret := some .boolean) (by decide +kernel) rfl (Nat.le_of_ble_eq_true rfl) ?_
  intro p e s m below meth c hx hb hml hr hts hown hlocks hK hP ls hl
  have hown : s.vm.findClass RX4 = some m.cls := hown
  have hl : lv_has ls 3 [(0, .int x), (1, .int y), (2, .int z)] := hl
  refine lv_iload_n hx hb dX4_isWithin_0 rfl (lv_at hl 0 rfl) ?_
  refine lv_iload_n hx hb dX4_isWithin_1 rfl (lv_at hl 1 rfl) ?_
  refine z_icmp_lt (tgt := 14) hx hb e_x e_y dX4_isWithin_2 (by decide) (fun c_1 => ?_) (fun c_1 => ?_)
  · refine lv_iconst (v := (0 : Int32)) hx hb dX4_isWithin_14 (by decide) ?_
    exact z_rb (v := (0 : Int32)) hx hb hr hlocks rfl (isB.f rfl (by omega)) dX4_isWithin_15
  · refine lv_iload_n hx hb dX4_isWithin_5 rfl (lv_at hl 0 rfl) ?_
    refine lv_iload_n hx hb dX4_isWithin_6 rfl (lv_at hl 2 rfl) ?_
    refine z_icmp_gt (tgt := 14) hx hb e_x e_z dX4_isWithin_7 (by decide) (fun c_2 => ?_) (fun c_2 => ?_)
    · refine lv_iconst (v := (0 : Int32)) hx hb dX4_isWithin_14 (by decide) ?_
      exact z_rb (v := (0 : Int32)) hx hb hr hlocks rfl (isB.f rfl (by omega)) dX4_isWithin_15
    · refine lv_iconst (v := (1 : Int32)) hx hb dX4_isWithin_10 (by decide) ?_
      refine lv_goto (tgt := 15) hx hb dX4_isWithin_11 (by decide) ?_
      exact z_rb (v := (1 : Int32)) hx hb hr hlocks rfl (isB.t rfl (by omega)) dX4_isWithin_15

abbrev rmX4_isStation : Room := { frames := 0, cells := 0, slots := 0, locals := 0 }
theorem hyX4_isStation : yX4_isStation.cls ≠ "java/lang/invoke/MethodHandle" ∧ yX4_isStation.cls ≠ "java/lang/invoke/VarHandle" ∧ (parseMethodDescriptor yX4_isStation.desc).map (fun d => d.parameters.length) = some 1 := by decide +kernel
set_option maxHeartbeats 4000000 in
set_option maxRecDepth 100000 in
theorem kX4_isStation (l : Launch) (G : xG) (x : Int32) (n : Int) (e_x : x.toInt = n) : Met l yX4_isStation wsX4_isStation rmX4_isStation (va_Pc [.int x] (zPre G (fun H => True))) (zS (fun v => isB v (0 ≤ n ∧ n < 3))) 0 0 zno := by
  refine z_ofW (cc := cX4_isStation) (maxL := 1) (ret := some .boolean) (by decide +kernel) rfl (Nat.le_of_ble_eq_true rfl) ?_
  intro p e s m below meth c hx hb hml hr hts hown hlocks hK hP ls hl
  have hown : s.vm.findClass RX4 = some m.cls := hown
  have hl : lv_has ls 1 [(0, .int x)] := hl
  refine lv_iload_n hx hb dX4_isStation_0 rfl (lv_at hl 0 rfl) ?_
  refine z_if_lt (tgt := 13) hx hb e_x dX4_isStation_1 (by decide) (fun c_1 => ?_) (fun c_1 => ?_)
  · refine lv_iconst (v := (0 : Int32)) hx hb dX4_isStation_13 (by decide) ?_
    exact z_rb (v := (0 : Int32)) hx hb hr hlocks rfl (isB.f rfl (by omega)) dX4_isStation_14
  · refine lv_iload_n hx hb dX4_isStation_4 rfl (lv_at hl 0 rfl) ?_
    refine lv_iconst (v := (3 : Int32)) hx hb dX4_isStation_5 (by decide) ?_
    refine z_icmp_ge (tgt := 13) hx hb e_x kI_3 dX4_isStation_6 (by decide) (fun c_2 => ?_) (fun c_2 => ?_)
    · refine lv_iconst (v := (0 : Int32)) hx hb dX4_isStation_13 (by decide) ?_
      exact z_rb (v := (0 : Int32)) hx hb hr hlocks rfl (isB.f rfl (by omega)) dX4_isStation_14
    · refine lv_iconst (v := (1 : Int32)) hx hb dX4_isStation_9 (by decide) ?_
      refine lv_goto (tgt := 14) hx hb dX4_isStation_10 (by decide) ?_
      exact z_rb (v := (1 : Int32)) hx hb hr hlocks rfl (isB.t rfl (by omega)) dX4_isStation_14

abbrev rmX0_kindAt : Room := { frames := 0, cells := 0, slots := 0, locals := 0 }
theorem iwX0_kindAt_0 : ∀ w ∈ wsX00, w ∈ wsX0_kindAt := fun _ h => List.mem_cons_of_mem _ (List.mem_append_right _ h)
theorem flX0_kindAt_23 : Cond.fieldLink RX0 23 "SiltedFloats$Gauge" "kinds" "[I" ∈ wsX0_kindAt := by decide +kernel
theorem hyX0_kindAt : yX0_kindAt.cls = RX0 ∧ yX0_kindAt.cls ≠ "java/lang/invoke/MethodHandle" ∧ yX0_kindAt.cls ≠ "java/lang/invoke/VarHandle" ∧ (parseMethodDescriptor yX0_kindAt.desc).map (fun d => d.parameters.length) = some 1 := by decide +kernel
set_option maxHeartbeats 4000000 in
set_option maxRecDepth 100000 in
theorem kX0_kindAt (l : Launch) (G : xG) (g : Nat) (d : GD) (x : Int32) (h : Int) (e_x : x.toInt = h) : Met l yX0_kindAt wsX0_kindAt rmX0_kindAt (va_Pc [.ref g, .int x] (zPre G (fun H => GA G H g d))) (zS (fun v => v.toInt = kindZ d h)) 0 0 zno := by
  refine z_ofW (cc := cX0_kindAt) (maxL := 2) (ret := some .int) (by decide +kernel) rfl (Nat.le_of_ble_eq_true rfl) ?_
  intro p e s m below meth c hx hb hml hr hts hown hlocks hK hP ls hl
  have hG := hP
  have hown : s.vm.findClass RX0 = some m.cls := hown
  have hl : lv_has ls 2 [(0, .ref g), (1, .int x)] := hl
  refine lv_iload_n hx hb dX0_kindAt_0 rfl (lv_at hl 1 rfl) ?_
  refine z_if_lt (tgt := 22) hx hb e_x dX0_kindAt_1 (by decide) (fun c_1 => ?_) (fun c_1 => ?_)
  · refine lv_iconst (v := (3 : Int32)) hx hb dX0_kindAt_22 (by decide) ?_
    exact z_ri (v := (3 : Int32)) hx hb hr hlocks (show (3 : Int32).toInt = kindZ d h from (by unfold kindZ rowZ; split <;> first | rfl | omega)) dX0_kindAt_23
  · refine lv_iload_n hx hb dX0_kindAt_4 rfl (lv_at hl 1 rfl) ?_
    refine lv_aload_n hx hb dX0_kindAt_5 rfl (lv_at hl 0 rfl) ?_
    refine z_get hx hb hts iwX0_kindAt_0 hown hK hG.1 rfl 12 (by decide) flX0_kindAt_23 rfl (v := .ref (g + 1)) rfl dX0_kindAt_6 ?_
    refine z_alen hx hb hK 0 hG.2.1 rfl (v := (120 : Int32)) rfl dX0_kindAt_9 ?_
    refine z_icmp_ge (tgt := 22) hx hb e_x kI_120 dX0_kindAt_10 (by decide) (fun c_2 => ?_) (fun c_2 => ?_)
    · refine lv_iconst (v := (3 : Int32)) hx hb dX0_kindAt_22 (by decide) ?_
      exact z_ri (v := (3 : Int32)) hx hb hr hlocks (show (3 : Int32).toInt = kindZ d h from (by unfold kindZ rowZ; split <;> first | rfl | omega)) dX0_kindAt_23
    · refine lv_aload_n hx hb dX0_kindAt_13 rfl (lv_at hl 0 rfl) ?_
      refine z_get hx hb hts iwX0_kindAt_0 hown hK hG.1 rfl 12 (by decide) flX0_kindAt_23 rfl (v := .ref (g + 1)) rfl dX0_kindAt_14 ?_
      refine lv_iload_n hx hb dX0_kindAt_17 rfl (lv_at hl 1 rfl) ?_
      refine z_iald (f := d.2.1) hx hb hK 0 hG.2.1 rfl e_x (by omega) dX0_kindAt_18 ?_
      refine lv_goto (tgt := 23) hx hb dX0_kindAt_19 (by decide) ?_
      exact z_ri (v := d.2.1 h.toNat) hx hb hr hlocks (show (d.2.1 h.toNat).toInt = kindZ d h from (by unfold kindZ rowZ; split <;> first | rfl | omega)) dX0_kindAt_23

abbrev rmX0_correctionAt : Room := { frames := 0, cells := 0, slots := 0, locals := 0 }
theorem iwX0_correctionAt_0 : ∀ w ∈ wsX00, w ∈ wsX0_correctionAt := fun _ h => List.mem_cons_of_mem _ (List.mem_append_right _ h)
theorem flX0_correctionAt_36 : Cond.fieldLink RX0 36 "SiltedFloats$Gauge" "corrections" "[I" ∈ wsX0_correctionAt := by decide +kernel
theorem hyX0_correctionAt : yX0_correctionAt.cls = RX0 ∧ yX0_correctionAt.cls ≠ "java/lang/invoke/MethodHandle" ∧ yX0_correctionAt.cls ≠ "java/lang/invoke/VarHandle" ∧ (parseMethodDescriptor yX0_correctionAt.desc).map (fun d => d.parameters.length) = some 1 := by decide +kernel
set_option maxHeartbeats 4000000 in
set_option maxRecDepth 100000 in
theorem kX0_correctionAt (l : Launch) (G : xG) (g : Nat) (d : GD) (x : Int32) (h : Int) (e_x : x.toInt = h) : Met l yX0_correctionAt wsX0_correctionAt rmX0_correctionAt (va_Pc [.ref g, .int x] (zPre G (fun H => GA G H g d))) (zS (fun v => v.toInt = corrZ d h)) 0 0 zno := by
  refine z_ofW (cc := cX0_correctionAt) (maxL := 2) (ret := some .int) (by decide +kernel) rfl (Nat.le_of_ble_eq_true rfl) ?_
  intro p e s m below meth c hx hb hml hr hts hown hlocks hK hP ls hl
  have hG := hP
  have hown : s.vm.findClass RX0 = some m.cls := hown
  have hl : lv_has ls 2 [(0, .ref g), (1, .int x)] := hl
  refine lv_iload_n hx hb dX0_correctionAt_0 rfl (lv_at hl 1 rfl) ?_
  refine z_if_lt (tgt := 22) hx hb e_x dX0_correctionAt_1 (by decide) (fun c_1 => ?_) (fun c_1 => ?_)
  · refine lv_iconst (v := (0 : Int32)) hx hb dX0_correctionAt_22 (by decide) ?_
    exact z_ri (v := (0 : Int32)) hx hb hr hlocks (show (0 : Int32).toInt = corrZ d h from (by unfold corrZ rowZ; split <;> first | rfl | omega)) dX0_correctionAt_23
  · refine lv_iload_n hx hb dX0_correctionAt_4 rfl (lv_at hl 1 rfl) ?_
    refine lv_aload_n hx hb dX0_correctionAt_5 rfl (lv_at hl 0 rfl) ?_
    refine z_get hx hb hts iwX0_correctionAt_0 hown hK hG.1 rfl 14 (by decide) flX0_correctionAt_36 rfl (v := .ref (g + 3)) rfl dX0_correctionAt_6 ?_
    refine z_alen hx hb hK 0 hG.2.2.2 rfl (v := (120 : Int32)) rfl dX0_correctionAt_9 ?_
    refine z_icmp_ge (tgt := 22) hx hb e_x kI_120 dX0_correctionAt_10 (by decide) (fun c_2 => ?_) (fun c_2 => ?_)
    · refine lv_iconst (v := (0 : Int32)) hx hb dX0_correctionAt_22 (by decide) ?_
      exact z_ri (v := (0 : Int32)) hx hb hr hlocks (show (0 : Int32).toInt = corrZ d h from (by unfold corrZ rowZ; split <;> first | rfl | omega)) dX0_correctionAt_23
    · refine lv_aload_n hx hb dX0_correctionAt_13 rfl (lv_at hl 0 rfl) ?_
      refine z_get hx hb hts iwX0_correctionAt_0 hown hK hG.1 rfl 14 (by decide) flX0_correctionAt_36 rfl (v := .ref (g + 3)) rfl dX0_correctionAt_14 ?_
      refine lv_iload_n hx hb dX0_correctionAt_17 rfl (lv_at hl 1 rfl) ?_
      refine z_iald (f := d.2.2.2) hx hb hK 0 hG.2.2.2 rfl e_x (by omega) dX0_correctionAt_18 ?_
      refine lv_goto (tgt := 23) hx hb dX0_correctionAt_19 (by decide) ?_
      exact z_ri (v := d.2.2.2 h.toNat) hx hb hr hlocks (show (d.2.2.2 h.toNat).toInt = corrZ d h from (by unfold corrZ rowZ; split <;> first | rfl | omega)) dX0_correctionAt_23

abbrev rmX0_readingAt : Room := { frames := 0, cells := 0, slots := 0, locals := 0 }
theorem iwX0_readingAt_0 : ∀ w ∈ wsX00, w ∈ wsX0_readingAt := fun _ h => List.mem_cons_of_mem _ (List.mem_append_right _ h)
theorem flX0_readingAt_33 : Cond.fieldLink RX0 33 "SiltedFloats$Gauge" "values" "[I" ∈ wsX0_readingAt := by decide +kernel
theorem hyX0_readingAt : yX0_readingAt.cls = RX0 ∧ yX0_readingAt.cls ≠ "java/lang/invoke/MethodHandle" ∧ yX0_readingAt.cls ≠ "java/lang/invoke/VarHandle" ∧ (parseMethodDescriptor yX0_readingAt.desc).map (fun d => d.parameters.length) = some 1 := by decide +kernel
set_option maxHeartbeats 4000000 in
set_option maxRecDepth 100000 in
theorem kX0_readingAt (l : Launch) (G : xG) (g : Nat) (d : GD) (x : Int32) (h : Int) (e_x : x.toInt = h) : Met l yX0_readingAt wsX0_readingAt rmX0_readingAt (va_Pc [.ref g, .int x] (zPre G (fun H => GA G H g d))) (zS (fun v => v.toInt = readZ d h)) 0 0 zno := by
  refine z_ofW (cc := cX0_readingAt) (maxL := 2) (ret := some .int) (by decide +kernel) rfl (Nat.le_of_ble_eq_true rfl) ?_
  intro p e s m below meth c hx hb hml hr hts hown hlocks hK hP ls hl
  have hG := hP
  have hown : s.vm.findClass RX0 = some m.cls := hown
  have hl : lv_has ls 2 [(0, .ref g), (1, .int x)] := hl
  refine lv_iload_n hx hb dX0_readingAt_0 rfl (lv_at hl 1 rfl) ?_
  refine z_if_lt (tgt := 22) hx hb e_x dX0_readingAt_1 (by decide) (fun c_1 => ?_) (fun c_1 => ?_)
  · refine lv_iconst (v := (0 : Int32)) hx hb dX0_readingAt_22 (by decide) ?_
    exact z_ri (v := (0 : Int32)) hx hb hr hlocks (show (0 : Int32).toInt = readZ d h from (by unfold readZ rowZ; split <;> first | rfl | omega)) dX0_readingAt_23
  · refine lv_iload_n hx hb dX0_readingAt_4 rfl (lv_at hl 1 rfl) ?_
    refine lv_aload_n hx hb dX0_readingAt_5 rfl (lv_at hl 0 rfl) ?_
    refine z_get hx hb hts iwX0_readingAt_0 hown hK hG.1 rfl 13 (by decide) flX0_readingAt_33 rfl (v := .ref (g + 2)) rfl dX0_readingAt_6 ?_
    refine z_alen hx hb hK 0 hG.2.2.1 rfl (v := (120 : Int32)) rfl dX0_readingAt_9 ?_
    refine z_icmp_ge (tgt := 22) hx hb e_x kI_120 dX0_readingAt_10 (by decide) (fun c_2 => ?_) (fun c_2 => ?_)
    · refine lv_iconst (v := (0 : Int32)) hx hb dX0_readingAt_22 (by decide) ?_
      exact z_ri (v := (0 : Int32)) hx hb hr hlocks (show (0 : Int32).toInt = readZ d h from (by unfold readZ rowZ; split <;> first | rfl | omega)) dX0_readingAt_23
    · refine lv_aload_n hx hb dX0_readingAt_13 rfl (lv_at hl 0 rfl) ?_
      refine z_get hx hb hts iwX0_readingAt_0 hown hK hG.1 rfl 13 (by decide) flX0_readingAt_33 rfl (v := .ref (g + 2)) rfl dX0_readingAt_14 ?_
      refine lv_iload_n hx hb dX0_readingAt_17 rfl (lv_at hl 1 rfl) ?_
      refine z_iald (f := d.2.2.1) hx hb hK 0 hG.2.2.1 rfl e_x (by omega) dX0_readingAt_18 ?_
      refine lv_goto (tgt := 23) hx hb dX0_readingAt_19 (by decide) ?_
      exact z_ri (v := d.2.2.1 h.toNat) hx hb hr hlocks (show (d.2.2.1 h.toNat).toInt = readZ d h from (by unfold readZ rowZ; split <;> first | rfl | omega)) dX0_readingAt_23

abbrev rmX0_correctedAt : Room := { frames := 1, cells := 0, slots := 0, locals := 21 }
theorem hyX0_correctedAt : yX0_correctedAt.cls = RX0 ∧ yX0_correctedAt.cls ≠ "java/lang/invoke/MethodHandle" ∧ yX0_correctedAt.cls ≠ "java/lang/invoke/VarHandle" ∧ (parseMethodDescriptor yX0_correctedAt.desc).map (fun d => d.parameters.length) = some 1 := by decide +kernel
set_option maxHeartbeats 4000000 in
set_option maxRecDepth 100000 in
theorem kX0_correctedAt (l : Launch) (G : xG) (g : Nat) (d : GD) (x : Int32) (h : Int) (e_x : x.toInt = h) (hsm : smallG d) : Met l yX0_correctedAt wsX0_correctedAt rmX0_correctedAt (va_Pc [.ref g, .int x] (zPre G (fun H => GA G H g d))) (zS (fun v => v.toInt = cordZ d h)) 0 0 zno := by
  refine z_ofW (cc := cX0_correctedAt) (maxL := 2) (ret := some .int) (by decide +kernel) rfl (Nat.le_of_ble_eq_true rfl) ?_
  intro p e s m below meth c hx hb hml hr hts hown hlocks hK hP ls hl
  have hG := hP
  have hown : s.vm.findClass RX0 = some m.cls := hown
  have hl : lv_has ls 2 [(0, .ref g), (1, .int x)] := hl
  have hq1 := hsm.read h
  have hq2 := hsm.corr h
  refine lv_aload_n hx hb dX0_correctedAt_0 rfl (lv_at hl 0 rfl) ?_
  refine lv_iload_n hx hb dX0_correctedAt_1 rfl (lv_at hl 1 rfl) ?_
  refine z_cV (As := [.int x]) (rest := []) ⟨hx, hb, hml, hown, hts⟩ (kX0_readingAt l G g d x h e_x) (cwV 1 hts gX0_correctedAt_X0_readingAt rfl rfl rfl hyX0_readingAt ⟨Nat.le_of_ble_eq_true rfl, Nat.le_of_ble_eq_true rfl⟩) hK hG hG.1 rfl rfl hl.1 rfl (Nat.le_of_ble_eq_true rfl) dX0_correctedAt_2 ⟨Nat.zero_le _, Nat.zero_le _⟩ (fun z1 e1 => ?_)
  have e1 : z1.toInt = readZ d h := e1
  refine lv_aload_n hx hb dX0_correctedAt_5 rfl (lv_at hl 0 rfl) ?_
  refine lv_iload_n hx hb dX0_correctedAt_6 rfl (lv_at hl 1 rfl) ?_
  refine z_cV (As := [.int x]) (rest := [.int z1]) ⟨hx, hb, hml, hown, hts⟩ (kX0_correctionAt l G g d x h e_x) (cwV 1 hts gX0_correctedAt_X0_correctionAt rfl rfl rfl hyX0_correctionAt ⟨Nat.le_of_ble_eq_true rfl, Nat.le_of_ble_eq_true rfl⟩) hK hG hG.1 rfl rfl hl.1 rfl (Nat.le_of_ble_eq_true rfl) dX0_correctedAt_7 ⟨Nat.zero_le _, Nat.zero_le _⟩ (fun z2 e2 => ?_)
  have e2 : z2.toInt = corrZ d h := e2
  refine z_isub hx hb e1 e2 dX0_correctedAt_10 (by omega) (fun z3 e3 => ?_)
  exact z_ri (v := z3) hx hb hr hlocks (show z3.toInt = cordZ d h from (by unfold cordZ; omega)) dX0_correctedAt_11

abbrev rmX0_valueAt : Room := { frames := 2, cells := 0, slots := 0, locals := 42 }
theorem hyX0_valueAt : yX0_valueAt.cls = RX0 ∧ yX0_valueAt.cls ≠ "java/lang/invoke/MethodHandle" ∧ yX0_valueAt.cls ≠ "java/lang/invoke/VarHandle" ∧ (parseMethodDescriptor yX0_valueAt.desc).map (fun d => d.parameters.length) = some 1 := by decide +kernel
set_option maxHeartbeats 4000000 in
set_option maxRecDepth 100000 in
theorem kX0_valueAt (l : Launch) (G : xG) (g : Nat) (d : GD) (x : Int32) (h : Int) (e_x : x.toInt = h) (hsm : smallG d) : Met l yX0_valueAt wsX0_valueAt rmX0_valueAt (va_Pc [.ref g, .int x] (zPre G (fun H => GA G H g d))) (zS (fun v => v.toInt = valZ d h)) 0 0 zno := by
  refine z_ofW (cc := cX0_valueAt) (maxL := 2) (ret := some .int) (by decide +kernel) rfl (Nat.le_of_ble_eq_true rfl) ?_
  intro p e s m below meth c hx hb hml hr hts hown hlocks hK hP ls hl
  have hG := hP
  have hown : s.vm.findClass RX0 = some m.cls := hown
  have hl : lv_has ls 2 [(0, .ref g), (1, .int x)] := hl
  refine lv_aload_n hx hb dX0_valueAt_0 rfl (lv_at hl 0 rfl) ?_
  refine lv_iload_n hx hb dX0_valueAt_1 rfl (lv_at hl 1 rfl) ?_
  refine z_cV (As := [.int x]) (rest := []) ⟨hx, hb, hml, hown, hts⟩ (kX0_kindAt l G g d x h e_x) (cwV 1 hts gX0_valueAt_X0_kindAt rfl rfl rfl hyX0_kindAt ⟨Nat.le_of_ble_eq_true rfl, Nat.le_of_ble_eq_true rfl⟩) hK hG hG.1 rfl rfl hl.1 rfl (Nat.le_of_ble_eq_true rfl) dX0_valueAt_2 ⟨Nat.zero_le _, Nat.zero_le _⟩ (fun z1 e1 => ?_)
  have e1 : z1.toInt = kindZ d h := e1
  refine lv_iconst (v := (2 : Int32)) hx hb dX0_valueAt_5 (by decide) ?_
  refine z_icmp_ne (tgt := 17) hx hb e1 kI_2 dX0_valueAt_6 (by decide) (fun c_2 => ?_) (fun c_2 => ?_)
  · refine lv_aload_n hx hb dX0_valueAt_17 rfl (lv_at hl 0 rfl) ?_
    refine lv_iload_n hx hb dX0_valueAt_18 rfl (lv_at hl 1 rfl) ?_
    refine z_cV (As := [.int x]) (rest := []) ⟨hx, hb, hml, hown, hts⟩ (kX0_correctedAt l G g d x h e_x hsm) (cwV 1 hts gX0_valueAt_X0_correctedAt rfl rfl rfl hyX0_correctedAt ⟨Nat.le_of_ble_eq_true rfl, Nat.le_of_ble_eq_true rfl⟩) hK hG hG.1 rfl rfl hl.1 rfl (Nat.le_of_ble_eq_true rfl) dX0_valueAt_19 ⟨Nat.zero_le _, Nat.zero_le _⟩ (fun z3 e3 => ?_)
    have e3 : z3.toInt = cordZ d h := e3
    exact z_ri (v := z3) hx hb hr hlocks (show z3.toInt = valZ d h from (by unfold valZ; first | (rw [if_pos (by omega)]; omega) | (rw [if_neg (by omega)]; omega))) dX0_valueAt_22
  · refine lv_aload_n hx hb dX0_valueAt_9 rfl (lv_at hl 0 rfl) ?_
    refine lv_iload_n hx hb dX0_valueAt_10 rfl (lv_at hl 1 rfl) ?_
    refine z_cV (As := [.int x]) (rest := []) ⟨hx, hb, hml, hown, hts⟩ (kX0_readingAt l G g d x h e_x) (cwV 1 hts gX0_valueAt_X0_readingAt rfl rfl rfl hyX0_readingAt ⟨Nat.le_of_ble_eq_true rfl, Nat.le_of_ble_eq_true rfl⟩) hK hG hG.1 rfl rfl hl.1 rfl (Nat.le_of_ble_eq_true rfl) dX0_valueAt_11 ⟨Nat.zero_le _, Nat.zero_le _⟩ (fun z4 e4 => ?_)
    have e4 : z4.toInt = readZ d h := e4
    refine lv_goto (tgt := 22) hx hb dX0_valueAt_14 (by decide) ?_
    exact z_ri (v := z4) hx hb hr hlocks (show z4.toInt = valZ d h from (by unfold valZ; first | (rw [if_pos (by omega)]; omega) | (rw [if_neg (by omega)]; omega))) dX0_valueAt_22

abbrev rmX0_hasValue : Room := { frames := 1, cells := 0, slots := 0, locals := 21 }
theorem hyX0_hasValue : yX0_hasValue.cls = RX0 ∧ yX0_hasValue.cls ≠ "java/lang/invoke/MethodHandle" ∧ yX0_hasValue.cls ≠ "java/lang/invoke/VarHandle" ∧ (parseMethodDescriptor yX0_hasValue.desc).map (fun d => d.parameters.length) = some 1 := by decide +kernel
set_option maxHeartbeats 4000000 in
set_option maxRecDepth 100000 in
theorem kX0_hasValue (l : Launch) (G : xG) (g : Nat) (d : GD) (x : Int32) (h : Int) (e_x : x.toInt = h) : Met l yX0_hasValue wsX0_hasValue rmX0_hasValue (va_Pc [.ref g, .int x] (zPre G (fun H => GA G H g d))) (zS (fun v => isB v (hvP d h))) 0 0 zno := by
  refine z_ofW (cc := cX0_hasValue) (maxL := 3) (ret := some .boolean) (by decide +kernel) rfl (Nat.le_of_ble_eq_true rfl) ?_
  intro p e s m below meth c hx hb hml hr hts hown hlocks hK hP ls hl
  have hG := hP
  have hown : s.vm.findClass RX0 = some m.cls := hown
  have hl : lv_has ls 3 [(0, .ref g), (1, .int x)] := hl
  refine lv_aload_n hx hb dX0_hasValue_0 rfl (lv_at hl 0 rfl) ?_
  refine lv_iload_n hx hb dX0_hasValue_1 rfl (lv_at hl 1 rfl) ?_
  refine z_cV (As := [.int x]) (rest := []) ⟨hx, hb, hml, hown, hts⟩ (kX0_kindAt l G g d x h e_x) (cwV 1 hts gX0_hasValue_X0_kindAt rfl rfl rfl hyX0_kindAt ⟨Nat.le_of_ble_eq_true rfl, Nat.le_of_ble_eq_true rfl⟩) hK hG hG.1 rfl rfl hl.1 rfl (Nat.le_of_ble_eq_true rfl) dX0_hasValue_2 ⟨Nat.zero_le _, Nat.zero_le _⟩ (fun z1 e1 => ?_)
  have e1 : z1.toInt = kindZ d h := e1
  refine lv_istore_n hx hb dX0_hasValue_5 rfl hl (by decide) rfl (fun ls hl => ?_)
  have hl : lv_has ls 3 [(2, .int z1), (0, .ref g), (1, .int x)] := hl
  refine lv_iload_n hx hb dX0_hasValue_6 rfl (lv_at hl 0 rfl) ?_
  refine z_if_eq (tgt := 15) hx hb e1 dX0_hasValue_7 (by decide) (fun c_2 => ?_) (fun c_2 => ?_)
  · refine lv_iconst (v := (1 : Int32)) hx hb dX0_hasValue_15 (by decide) ?_
    refine lv_goto (tgt := 20) hx hb dX0_hasValue_16 (by decide) ?_
    exact z_rb (v := (1 : Int32)) hx hb hr hlocks rfl (isB.t rfl (by unfold hvP; omega)) dX0_hasValue_20
  · refine lv_iload_n hx hb dX0_hasValue_10 rfl (lv_at hl 0 rfl) ?_
    refine lv_iconst (v := (2 : Int32)) hx hb dX0_hasValue_11 (by decide) ?_
    refine z_icmp_ne (tgt := 19) hx hb e1 kI_2 dX0_hasValue_12 (by decide) (fun c_3 => ?_) (fun c_3 => ?_)
    · refine lv_iconst (v := (0 : Int32)) hx hb dX0_hasValue_19 (by decide) ?_
      exact z_rb (v := (0 : Int32)) hx hb hr hlocks rfl (isB.f rfl (by unfold hvP; omega)) dX0_hasValue_20
    · refine lv_iconst (v := (1 : Int32)) hx hb dX0_hasValue_15 (by decide) ?_
      refine lv_goto (tgt := 20) hx hb dX0_hasValue_16 (by decide) ?_
      exact z_rb (v := (1 : Int32)) hx hb hr hlocks rfl (isB.t rfl (by unfold hvP; omega)) dX0_hasValue_20

abbrev rmX0_hasReading : Room := { frames := 1, cells := 0, slots := 0, locals := 21 }
theorem hyX0_hasReading : yX0_hasReading.cls = RX0 ∧ yX0_hasReading.cls ≠ "java/lang/invoke/MethodHandle" ∧ yX0_hasReading.cls ≠ "java/lang/invoke/VarHandle" ∧ (parseMethodDescriptor yX0_hasReading.desc).map (fun d => d.parameters.length) = some 1 := by decide +kernel
set_option maxHeartbeats 4000000 in
set_option maxRecDepth 100000 in
theorem kX0_hasReading (l : Launch) (G : xG) (g : Nat) (d : GD) (x : Int32) (h : Int) (e_x : x.toInt = h) : Met l yX0_hasReading wsX0_hasReading rmX0_hasReading (va_Pc [.ref g, .int x] (zPre G (fun H => GA G H g d))) (zS (fun v => isB v (kindZ d h = 0))) 0 0 zno := by
  refine z_ofW (cc := cX0_hasReading) (maxL := 2) (ret := some .boolean) (by decide +kernel) rfl (Nat.le_of_ble_eq_true rfl) ?_
  intro p e s m below meth c hx hb hml hr hts hown hlocks hK hP ls hl
  have hG := hP
  have hown : s.vm.findClass RX0 = some m.cls := hown
  have hl : lv_has ls 2 [(0, .ref g), (1, .int x)] := hl
  refine lv_aload_n hx hb dX0_hasReading_0 rfl (lv_at hl 0 rfl) ?_
  refine lv_iload_n hx hb dX0_hasReading_1 rfl (lv_at hl 1 rfl) ?_
  refine z_cV (As := [.int x]) (rest := []) ⟨hx, hb, hml, hown, hts⟩ (kX0_kindAt l G g d x h e_x) (cwV 1 hts gX0_hasReading_X0_kindAt rfl rfl rfl hyX0_kindAt ⟨Nat.le_of_ble_eq_true rfl, Nat.le_of_ble_eq_true rfl⟩) hK hG hG.1 rfl rfl hl.1 rfl (Nat.le_of_ble_eq_true rfl) dX0_hasReading_2 ⟨Nat.zero_le _, Nat.zero_le _⟩ (fun z1 e1 => ?_)
  have e1 : z1.toInt = kindZ d h := e1
  refine z_if_ne (tgt := 12) hx hb e1 dX0_hasReading_5 (by decide) (fun c_2 => ?_) (fun c_2 => ?_)
  · refine lv_iconst (v := (0 : Int32)) hx hb dX0_hasReading_12 (by decide) ?_
    exact z_rb (v := (0 : Int32)) hx hb hr hlocks rfl (isB.f rfl (by omega)) dX0_hasReading_13
  · refine lv_iconst (v := (1 : Int32)) hx hb dX0_hasReading_8 (by decide) ?_
    refine lv_goto (tgt := 13) hx hb dX0_hasReading_9 (by decide) ?_
    exact z_rb (v := (1 : Int32)) hx hb hr hlocks rfl (isB.t rfl (by omega)) dX0_hasReading_13

abbrev rmX0_hasReadings : Room := { frames := 2, cells := 0, slots := 0, locals := 42 }
theorem hyX0_hasReadings : yX0_hasReadings.cls = RX0 ∧ yX0_hasReadings.cls ≠ "java/lang/invoke/MethodHandle" ∧ yX0_hasReadings.cls ≠ "java/lang/invoke/VarHandle" ∧ (parseMethodDescriptor yX0_hasReadings.desc).map (fun d => d.parameters.length) = some 2 := by decide +kernel
set_option maxHeartbeats 4000000 in
set_option maxRecDepth 100000 in
theorem kX0_hasReadings (l : Launch) (G : xG) (g : Nat) (d : GD) (x : Int32) (a : Int) (e_x : x.toInt = a) (y : Int32) (b : Int) (e_y : y.toInt = b) (ha : -1000000 ≤ a ∧ b ≤ 1000000) : Met l yX0_hasReadings wsX0_hasReadings rmX0_hasReadings (va_Pc [.ref g, .int x, .int y] (zPre G (fun H => GA G H g d))) (zS (fun v => isB v (∀ j : Int, a ≤ j → j ≤ b → kindZ d j = 0))) 0 0 zno := by
  refine z_ofW (cc := cX0_hasReadings) (maxL := 4) (ret := some .boolean) (by decide +kernel) rfl (Nat.le_of_ble_eq_true rfl) ?_
  intro p e s m below meth c hx hb hml hr hts hown hlocks hK hP ls hl
  have hG := hP
  have hown : s.vm.findClass RX0 = some m.cls := hown
  have hl : lv_has ls 4 [(0, .ref g), (1, .int x), (2, .int y)] := hl
  have cut2 : ∀ (n2 : Nat), ∀ (x3 : Int32) (i3 : Int) (_ : x3.toInt = i3), (b + 1 - i3).toNat < n2 → (a ≤ i3) → (∀ j : Int, a ≤ j → j < i3 → kindZ d j = 0) → ∀ ls : Array Slot, lv_has ls 4 [(0, .ref g), (1, .int x), (2, .int y), (3, .int x3)] → W p l e rmX0_hasReadings s m ([.ref g, .int x, .int y] : List Value).toArray below meth c s.heap [] 0 0 (MQ below (zS (fun v => isB v (∀ j : Int, a ≤ j → j ≤ b → kindZ d j = 0))) ([.ref g, .int x, .int y] : List Value).toArray s 0 0 zno) (F0 m 2 ls []) := by
    intro n2
    induction n2 with
    | zero =>
      intro x3 i3 hx3 hmu2 hi2_0 hi2_1 ls hl
      exact absurd hmu2 (Nat.not_lt_zero _)
    | succ n2 ih2 =>
      intro x3 i3 hx3 hmu2 hi2_0 hi2_1 ls hl
      refine lv_iload_n hx hb dX0_hasReadings_2 rfl (lv_at hl 3 rfl) ?_
      refine lv_iload_n hx hb dX0_hasReadings_3 rfl (lv_at hl 2 rfl) ?_
      refine z_icmp_gt (tgt := 23) hx hb hx3 e_y dX0_hasReadings_4 (by decide) (fun c_1 => ?_) (fun c_1 => ?_)
      · refine lv_iconst (v := (1 : Int32)) hx hb dX0_hasReadings_23 (by decide) ?_
        exact z_rb (v := (1 : Int32)) hx hb hr hlocks rfl (isB.t rfl (fun j h1 h2 => hi2_1 j h1 (by omega))) dX0_hasReadings_24
      · refine lv_aload_n hx hb dX0_hasReadings_7 rfl (lv_at hl 0 rfl) ?_
        refine lv_iload_n hx hb dX0_hasReadings_8 rfl (lv_at hl 3 rfl) ?_
        refine z_cV (As := [.int x3]) (rest := []) ⟨hx, hb, hml, hown, hts⟩ (kX0_hasReading l G g d x3 i3 hx3) (cwV 1 hts gX0_hasReadings_X0_hasReading rfl rfl rfl hyX0_hasReading ⟨Nat.le_of_ble_eq_true rfl, Nat.le_of_ble_eq_true rfl⟩) hK hG hG.1 rfl rfl hl.1 rfl (Nat.le_of_ble_eq_true rfl) dX0_hasReadings_9 ⟨Nat.zero_le _, Nat.zero_le _⟩ (fun z2 e2 => ?_)
        have e2 : isB z2 (kindZ d i3 = 0) := e2
        refine z_ifb_ne (tgt := 17) hx hb e2 dX0_hasReadings_12 (by decide) (fun c_3 => ?_) (fun c_3 => ?_)
        · refine z_iinc (k := 3) hx hb dX0_hasReadings_17 hl rfl hx3 (show (Int32.ofInt 1).toInt = (1 : Int) from rfl) (by omega) (by decide) (fun z4 e4 ls hl => ?_)
          have hl : lv_has ls 4 [(3, .int z4), (0, .ref g), (1, .int x), (2, .int y)] := hl
          refine lv_goto (tgt := 2) hx hb dX0_hasReadings_20 (by decide) ?_
          exact ih2 z4 (i3 + (1 : Int)) e4 (by omega) (by omega) (fun j h1 h2 => (Int.lt_or_eq_of_le (show j ≤ i3 by omega)).elim (fun q => hi2_1 j h1 q) (fun q => by rw [q]; assumption)) ls (lv_sub hl [1, 2, 3, 0] rfl)
        · refine lv_iconst (v := (0 : Int32)) hx hb dX0_hasReadings_15 (by decide) ?_
          exact z_rb (v := (0 : Int32)) hx hb hr hlocks rfl (isB.f rfl (fun q => absurd (q i3 (by omega) (by omega)) (by assumption))) dX0_hasReadings_16
  refine lv_iload_n hx hb dX0_hasReadings_0 rfl (lv_at hl 1 rfl) ?_
  refine lv_istore_n hx hb dX0_hasReadings_1 rfl hl (by decide) rfl (fun ls hl => ?_)
  have hl : lv_has ls 4 [(3, .int x), (0, .ref g), (1, .int x), (2, .int y)] := hl
  exact cut2 (((b + 1 - a).toNat) + 1) x a e_x (Nat.lt_succ_self _) (by omega) (fun j h1 h2 => by omega) ls (lv_sub hl [1, 2, 3, 0] rfl)

abbrev rmX0_isHighAt : Room := { frames := 3, cells := 0, slots := 0, locals := 63 }
theorem hyX0_isHighAt : yX0_isHighAt.cls = RX0 ∧ yX0_isHighAt.cls ≠ "java/lang/invoke/MethodHandle" ∧ yX0_isHighAt.cls ≠ "java/lang/invoke/VarHandle" ∧ (parseMethodDescriptor yX0_isHighAt.desc).map (fun d => d.parameters.length) = some 1 := by decide +kernel
set_option maxHeartbeats 4000000 in
set_option maxRecDepth 100000 in
theorem kX0_isHighAt (l : Launch) (G : xG) (g : Nat) (d : GD) (x : Int32) (h : Int) (e_x : x.toInt = h) (hsm : smallG d) (hh : -1000000 ≤ h ∧ h ≤ 1000000) : Met l yX0_isHighAt wsX0_isHighAt rmX0_isHighAt (va_Pc [.ref g, .int x] (zPre G (fun H => GA G H g d))) (zS (fun v => isB v (hiP d h))) 0 0 zno := by
  refine z_ofW (cc := cX0_isHighAt) (maxL := 2) (ret := some .boolean) (by decide +kernel) rfl (Nat.le_of_ble_eq_true rfl) ?_
  intro p e s m below meth c hx hb hml hr hts hown hlocks hK hP ls hl
  have hG := hP
  have hown : s.vm.findClass RX0 = some m.cls := hown
  have hl : lv_has ls 2 [(0, .ref g), (1, .int x)] := hl
  refine lv_aload_n hx hb dX0_isHighAt_0 rfl (lv_at hl 0 rfl) ?_
  refine lv_iload_n hx hb dX0_isHighAt_1 rfl (lv_at hl 1 rfl) ?_
  refine lv_iconst (v := (1 : Int32)) hx hb dX0_isHighAt_2 (by decide) ?_
  refine z_isub hx hb e_x kI_1 dX0_isHighAt_3 (by omega) (fun z1 e1 => ?_)
  refine z_cV (As := [.int z1]) (rest := []) ⟨hx, hb, hml, hown, hts⟩ (kX0_hasValue l G g d z1 (h - (1 : Int)) e1) (cwV 1 hts gX0_isHighAt_X0_hasValue rfl rfl rfl hyX0_hasValue ⟨Nat.le_of_ble_eq_true rfl, Nat.le_of_ble_eq_true rfl⟩) hK hG hG.1 rfl rfl hl.1 rfl (Nat.le_of_ble_eq_true rfl) dX0_isHighAt_4 ⟨Nat.zero_le _, Nat.zero_le _⟩ (fun z2 e2 => ?_)
  have e2 : isB z2 (hvP d (h - (1 : Int))) := e2
  refine z_ifb_eq (tgt := 62) hx hb e2 dX0_isHighAt_7 (by decide) (fun c_3 => ?_) (fun c_3 => ?_)
  · refine lv_iconst (v := (0 : Int32)) hx hb dX0_isHighAt_62 (by decide) ?_
    exact z_rb (v := (0 : Int32)) hx hb hr hlocks rfl (isB.f rfl (fun q => by first | exact absurd q.1 (by assumption) | exact absurd q.2.1 (by assumption) | exact absurd q.2.2.1 (by assumption) | (have := q.2.2.2; omega))) dX0_isHighAt_63
  · refine lv_aload_n hx hb dX0_isHighAt_10 rfl (lv_at hl 0 rfl) ?_
    refine lv_iload_n hx hb dX0_isHighAt_11 rfl (lv_at hl 1 rfl) ?_
    refine z_cV (As := [.int x]) (rest := []) ⟨hx, hb, hml, hown, hts⟩ (kX0_hasValue l G g d x h e_x) (cwV 1 hts gX0_isHighAt_X0_hasValue rfl rfl rfl hyX0_hasValue ⟨Nat.le_of_ble_eq_true rfl, Nat.le_of_ble_eq_true rfl⟩) hK hG hG.1 rfl rfl hl.1 rfl (Nat.le_of_ble_eq_true rfl) dX0_isHighAt_12 ⟨Nat.zero_le _, Nat.zero_le _⟩ (fun z4 e4 => ?_)
    have e4 : isB z4 (hvP d h) := e4
    refine z_ifb_eq (tgt := 62) hx hb e4 dX0_isHighAt_15 (by decide) (fun c_5 => ?_) (fun c_5 => ?_)
    · refine lv_iconst (v := (0 : Int32)) hx hb dX0_isHighAt_62 (by decide) ?_
      exact z_rb (v := (0 : Int32)) hx hb hr hlocks rfl (isB.f rfl (fun q => by first | exact absurd q.1 (by assumption) | exact absurd q.2.1 (by assumption) | exact absurd q.2.2.1 (by assumption) | (have := q.2.2.2; omega))) dX0_isHighAt_63
    · refine lv_aload_n hx hb dX0_isHighAt_18 rfl (lv_at hl 0 rfl) ?_
      refine lv_iload_n hx hb dX0_isHighAt_19 rfl (lv_at hl 1 rfl) ?_
      refine lv_iconst (v := (1 : Int32)) hx hb dX0_isHighAt_20 (by decide) ?_
      refine z_iadd hx hb e_x kI_1 dX0_isHighAt_21 (by omega) (fun z6 e6 => ?_)
      refine z_cV (As := [.int z6]) (rest := []) ⟨hx, hb, hml, hown, hts⟩ (kX0_hasValue l G g d z6 (h + (1 : Int)) e6) (cwV 1 hts gX0_isHighAt_X0_hasValue rfl rfl rfl hyX0_hasValue ⟨Nat.le_of_ble_eq_true rfl, Nat.le_of_ble_eq_true rfl⟩) hK hG hG.1 rfl rfl hl.1 rfl (Nat.le_of_ble_eq_true rfl) dX0_isHighAt_22 ⟨Nat.zero_le _, Nat.zero_le _⟩ (fun z7 e7 => ?_)
      have e7 : isB z7 (hvP d (h + (1 : Int))) := e7
      refine z_ifb_eq (tgt := 62) hx hb e7 dX0_isHighAt_25 (by decide) (fun c_8 => ?_) (fun c_8 => ?_)
      · refine lv_iconst (v := (0 : Int32)) hx hb dX0_isHighAt_62 (by decide) ?_
        exact z_rb (v := (0 : Int32)) hx hb hr hlocks rfl (isB.f rfl (fun q => by first | exact absurd q.1 (by assumption) | exact absurd q.2.1 (by assumption) | exact absurd q.2.2.1 (by assumption) | (have := q.2.2.2; omega))) dX0_isHighAt_63
      · refine lv_aload_n hx hb dX0_isHighAt_28 rfl (lv_at hl 0 rfl) ?_
        refine lv_iload_n hx hb dX0_isHighAt_29 rfl (lv_at hl 1 rfl) ?_
        refine z_cV (As := [.int x]) (rest := []) ⟨hx, hb, hml, hown, hts⟩ (kX0_valueAt l G g d x h e_x (by first | assumption | omega)) (cwV 1 hts gX0_isHighAt_X0_valueAt rfl rfl rfl hyX0_valueAt ⟨Nat.le_of_ble_eq_true rfl, Nat.le_of_ble_eq_true rfl⟩) hK hG hG.1 rfl rfl hl.1 rfl (Nat.le_of_ble_eq_true rfl) dX0_isHighAt_30 ⟨Nat.zero_le _, Nat.zero_le _⟩ (fun z9 e9 => ?_)
        have e9 : z9.toInt = valZ d h := e9
        refine lv_aload_n hx hb dX0_isHighAt_33 rfl (lv_at hl 0 rfl) ?_
        refine lv_iload_n hx hb dX0_isHighAt_34 rfl (lv_at hl 1 rfl) ?_
        refine lv_iconst (v := (1 : Int32)) hx hb dX0_isHighAt_35 (by decide) ?_
        refine z_isub hx hb e_x kI_1 dX0_isHighAt_36 (by omega) (fun z10 e10 => ?_)
        refine z_cV (As := [.int z10]) (rest := [.int z9]) ⟨hx, hb, hml, hown, hts⟩ (kX0_valueAt l G g d z10 (h - (1 : Int)) e10 (by first | assumption | omega)) (cwV 1 hts gX0_isHighAt_X0_valueAt rfl rfl rfl hyX0_valueAt ⟨Nat.le_of_ble_eq_true rfl, Nat.le_of_ble_eq_true rfl⟩) hK hG hG.1 rfl rfl hl.1 rfl (Nat.le_of_ble_eq_true rfl) dX0_isHighAt_37 ⟨Nat.zero_le _, Nat.zero_le _⟩ (fun z11 e11 => ?_)
        have e11 : z11.toInt = valZ d (h - (1 : Int)) := e11
        refine z_icmp_le (tgt := 62) hx hb e9 e11 dX0_isHighAt_40 (by decide) (fun c_12 => ?_) (fun c_12 => ?_)
        · refine lv_iconst (v := (0 : Int32)) hx hb dX0_isHighAt_62 (by decide) ?_
          exact z_rb (v := (0 : Int32)) hx hb hr hlocks rfl (isB.f rfl (fun q => by first | exact absurd q.1 (by assumption) | exact absurd q.2.1 (by assumption) | exact absurd q.2.2.1 (by assumption) | (have := q.2.2.2; omega))) dX0_isHighAt_63
        · refine lv_aload_n hx hb dX0_isHighAt_43 rfl (lv_at hl 0 rfl) ?_
          refine lv_iload_n hx hb dX0_isHighAt_44 rfl (lv_at hl 1 rfl) ?_
          refine z_cV (As := [.int x]) (rest := []) ⟨hx, hb, hml, hown, hts⟩ (kX0_valueAt l G g d x h e_x (by first | assumption | omega)) (cwV 1 hts gX0_isHighAt_X0_valueAt rfl rfl rfl hyX0_valueAt ⟨Nat.le_of_ble_eq_true rfl, Nat.le_of_ble_eq_true rfl⟩) hK hG hG.1 rfl rfl hl.1 rfl (Nat.le_of_ble_eq_true rfl) dX0_isHighAt_45 ⟨Nat.zero_le _, Nat.zero_le _⟩ (fun z13 e13 => ?_)
          have e13 : z13.toInt = valZ d h := e13
          refine lv_aload_n hx hb dX0_isHighAt_48 rfl (lv_at hl 0 rfl) ?_
          refine lv_iload_n hx hb dX0_isHighAt_49 rfl (lv_at hl 1 rfl) ?_
          refine lv_iconst (v := (1 : Int32)) hx hb dX0_isHighAt_50 (by decide) ?_
          refine z_iadd hx hb e_x kI_1 dX0_isHighAt_51 (by omega) (fun z14 e14 => ?_)
          refine z_cV (As := [.int z14]) (rest := [.int z13]) ⟨hx, hb, hml, hown, hts⟩ (kX0_valueAt l G g d z14 (h + (1 : Int)) e14 (by first | assumption | omega)) (cwV 1 hts gX0_isHighAt_X0_valueAt rfl rfl rfl hyX0_valueAt ⟨Nat.le_of_ble_eq_true rfl, Nat.le_of_ble_eq_true rfl⟩) hK hG hG.1 rfl rfl hl.1 rfl (Nat.le_of_ble_eq_true rfl) dX0_isHighAt_52 ⟨Nat.zero_le _, Nat.zero_le _⟩ (fun z15 e15 => ?_)
          have e15 : z15.toInt = valZ d (h + (1 : Int)) := e15
          refine z_icmp_le (tgt := 62) hx hb e13 e15 dX0_isHighAt_55 (by decide) (fun c_16 => ?_) (fun c_16 => ?_)
          · refine lv_iconst (v := (0 : Int32)) hx hb dX0_isHighAt_62 (by decide) ?_
            exact z_rb (v := (0 : Int32)) hx hb hr hlocks rfl (isB.f rfl (fun q => by first | exact absurd q.1 (by assumption) | exact absurd q.2.1 (by assumption) | exact absurd q.2.2.1 (by assumption) | (have := q.2.2.2; omega))) dX0_isHighAt_63
          · refine lv_iconst (v := (1 : Int32)) hx hb dX0_isHighAt_58 (by decide) ?_
            refine lv_goto (tgt := 63) hx hb dX0_isHighAt_59 (by decide) ?_
            exact z_rb (v := (1 : Int32)) hx hb hr hlocks rfl (isB.t rfl ⟨by assumption, by assumption, by assumption, by omega, by omega⟩) dX0_isHighAt_63

abbrev rmX0_hoursOfKind : Room := { frames := 0, cells := 0, slots := 0, locals := 0 }
theorem iwX0_hoursOfKind_0 : ∀ w ∈ wsX00, w ∈ wsX0_hoursOfKind := fun _ h => List.mem_cons_of_mem _ (List.mem_append_right _ h)
theorem flX0_hoursOfKind_23 : Cond.fieldLink RX0 23 "SiltedFloats$Gauge" "kinds" "[I" ∈ wsX0_hoursOfKind := by decide +kernel
theorem hyX0_hoursOfKind : yX0_hoursOfKind.cls = RX0 ∧ yX0_hoursOfKind.cls ≠ "java/lang/invoke/MethodHandle" ∧ yX0_hoursOfKind.cls ≠ "java/lang/invoke/VarHandle" ∧ (parseMethodDescriptor yX0_hoursOfKind.desc).map (fun d => d.parameters.length) = some 1 := by decide +kernel
set_option maxHeartbeats 4000000 in
set_option maxRecDepth 100000 in
theorem kX0_hoursOfKind (l : Launch) (G : xG) (g : Nat) (d : GD) (x : Int32) (k : Int) (e_x : x.toInt = k) : Met l yX0_hoursOfKind wsX0_hoursOfKind rmX0_hoursOfKind (va_Pc [.ref g, .int x] (zPre G (fun H => GA G H g d))) (zS (fun v => v.toInt = cntZ (fun j => (d.2.1 j).toInt = k) 120)) 0 0 zno := by
  refine z_ofW (cc := cX0_hoursOfKind) (maxL := 4) (ret := some .int) (by decide +kernel) rfl (Nat.le_of_ble_eq_true rfl) ?_
  intro p e s m below meth c hx hb hml hr hts hown hlocks hK hP ls hl
  have hG := hP
  have hown : s.vm.findClass RX0 = some m.cls := hown
  have hl : lv_has ls 4 [(0, .ref g), (1, .int x)] := hl
  have cut4 : ∀ (n4 : Nat), ∀ (x2 : Int32) (i2 : Int) (_ : x2.toInt = i2) (x3 : Int32) (i3 : Int) (_ : x3.toInt = i3), (120 - i3).toNat < n4 → (0 ≤ i3 ∧ i3 ≤ 120) → (i2 = cntZ (fun j => (d.2.1 j).toInt = k) i3.toNat) → ∀ ls : Array Slot, lv_has ls 4 [(0, .ref g), (1, .int x), (2, .int x2), (3, .int x3)] → W p l e rmX0_hoursOfKind s m ([.ref g, .int x] : List Value).toArray below meth c s.heap [] 0 0 (MQ below (zS (fun v => v.toInt = cntZ (fun j => (d.2.1 j).toInt = k) 120)) ([.ref g, .int x] : List Value).toArray s 0 0 zno) (F0 m 4 ls []) := by
    intro n4
    induction n4 with
    | zero =>
      intro x2 i2 hx2 x3 i3 hx3 hmu4 hi4_0 hi4_1 ls hl
      exact absurd hmu4 (Nat.not_lt_zero _)
    | succ n4 ih4 =>
      intro x2 i2 hx2 x3 i3 hx3 hmu4 hi4_0 hi4_1 ls hl
      have hcb := cntZ_b (fun j => (d.2.1 j).toInt = k) i3.toNat
      refine lv_iload_n hx hb dX0_hoursOfKind_4 rfl (lv_at hl 3 rfl) ?_
      refine lv_bipush (v := (120 : Int32)) hx hb dX0_hoursOfKind_5 (by decide) ?_
      refine z_icmp_ge (tgt := 29) hx hb hx3 kI_120 dX0_hoursOfKind_7 (by decide) (fun c_1 => ?_) (fun c_1 => ?_)
      · refine lv_iload_n hx hb dX0_hoursOfKind_29 rfl (lv_at hl 2 rfl) ?_
        exact z_ri (v := x2) hx hb hr hlocks (show x2.toInt = cntZ (fun j => (d.2.1 j).toInt = k) 120 from (by rw [hx2, hi4_1, show i3 = 120 by omega]; rfl)) dX0_hoursOfKind_30
      · refine lv_aload_n hx hb dX0_hoursOfKind_10 rfl (lv_at hl 0 rfl) ?_
        refine z_get hx hb hts iwX0_hoursOfKind_0 hown hK hG.1 rfl 12 (by decide) flX0_hoursOfKind_23 rfl (v := .ref (g + 1)) rfl dX0_hoursOfKind_11 ?_
        refine lv_iload_n hx hb dX0_hoursOfKind_14 rfl (lv_at hl 3 rfl) ?_
        refine z_iald (f := d.2.1) hx hb hK 0 hG.2.1 rfl hx3 (by omega) dX0_hoursOfKind_15 ?_
        refine lv_iload_n hx hb dX0_hoursOfKind_16 rfl (lv_at hl 1 rfl) ?_
        refine z_icmp_ne (tgt := 23) hx hb rfl e_x dX0_hoursOfKind_17 (by decide) (fun c_2 => ?_) (fun c_2 => ?_)
        · refine z_iinc (k := 3) hx hb dX0_hoursOfKind_23 hl rfl hx3 (show (Int32.ofInt 1).toInt = (1 : Int) from rfl) (by omega) (by decide) (fun z3 e3 ls hl => ?_)
          have hl : lv_has ls 4 [(3, .int z3), (0, .ref g), (1, .int x), (2, .int x2)] := hl
          refine lv_goto (tgt := 4) hx hb dX0_hoursOfKind_26 (by decide) ?_
          exact ih4 x2 i2 hx2 z3 (i3 + (1 : Int)) e3 (by omega) (by omega) (by rw [cntZ_f (by omega) (by assumption)]; omega) ls (lv_sub hl [1, 2, 3, 0] rfl)
        · refine z_iinc (k := 2) hx hb dX0_hoursOfKind_20 hl rfl hx2 (show (Int32.ofInt 1).toInt = (1 : Int) from rfl) (by omega) (by decide) (fun z4 e4 ls hl => ?_)
          have hl : lv_has ls 4 [(2, .int z4), (0, .ref g), (1, .int x), (3, .int x3)] := hl
          refine z_iinc (k := 3) hx hb dX0_hoursOfKind_23 hl rfl hx3 (show (Int32.ofInt 1).toInt = (1 : Int) from rfl) (by omega) (by decide) (fun z5 e5 ls hl => ?_)
          have hl : lv_has ls 4 [(3, .int z5), (2, .int z4), (0, .ref g), (1, .int x)] := hl
          refine lv_goto (tgt := 4) hx hb dX0_hoursOfKind_26 (by decide) ?_
          exact ih4 z4 (i2 + (1 : Int)) e4 z5 (i3 + (1 : Int)) e5 (by omega) (by omega) (by rw [cntZ_t (by omega) (by assumption)]; omega) ls (lv_sub hl [2, 3, 1, 0] rfl)
  refine lv_iconst (v := (0 : Int32)) hx hb dX0_hoursOfKind_0 (by decide) ?_
  refine lv_istore_n hx hb dX0_hoursOfKind_1 rfl hl (by decide) rfl (fun ls hl => ?_)
  have hl : lv_has ls 4 [(2, .int (0 : Int32)), (0, .ref g), (1, .int x)] := hl
  refine lv_iconst (v := (0 : Int32)) hx hb dX0_hoursOfKind_2 (by decide) ?_
  refine lv_istore_n hx hb dX0_hoursOfKind_3 rfl hl (by decide) rfl (fun ls hl => ?_)
  have hl : lv_has ls 4 [(3, .int (0 : Int32)), (2, .int (0 : Int32)), (0, .ref g), (1, .int x)] := hl
  exact cut4 (((120 - (0 : Int)).toNat) + 1) (0 : Int32) (0 : Int) kI_0 (0 : Int32) (0 : Int) kI_0 (Nat.lt_succ_self _) (by omega) rfl ls (lv_sub hl [2, 3, 1, 0] rfl)

abbrev rmX0_isInGap : Room := { frames := 1, cells := 0, slots := 0, locals := 21 }
theorem hyX0_isInGap : yX0_isInGap.cls = RX0 ∧ yX0_isInGap.cls ≠ "java/lang/invoke/MethodHandle" ∧ yX0_isInGap.cls ≠ "java/lang/invoke/VarHandle" ∧ (parseMethodDescriptor yX0_isInGap.desc).map (fun d => d.parameters.length) = some 1 := by decide +kernel
set_option maxHeartbeats 4000000 in
set_option maxRecDepth 100000 in
theorem kX0_isInGap (l : Launch) (G : xG) (g : Nat) (d : GD) (x : Int32) (h : Int) (e_x : x.toInt = h) : Met l yX0_isInGap wsX0_isInGap rmX0_isInGap (va_Pc [.ref g, .int x] (zPre G (fun H => GA G H g d))) (zS (fun v => isB v (igP d h))) 0 0 zno := by
  refine z_ofW (cc := cX0_isInGap) (maxL := 3) (ret := some .boolean) (by decide +kernel) rfl (Nat.le_of_ble_eq_true rfl) ?_
  intro p e s m below meth c hx hb hml hr hts hown hlocks hK hP ls hl
  have hG := hP
  have hown : s.vm.findClass RX0 = some m.cls := hown
  have hl : lv_has ls 3 [(0, .ref g), (1, .int x)] := hl
  refine lv_aload_n hx hb dX0_isInGap_0 rfl (lv_at hl 0 rfl) ?_
  refine lv_iload_n hx hb dX0_isInGap_1 rfl (lv_at hl 1 rfl) ?_
  refine z_cV (As := [.int x]) (rest := []) ⟨hx, hb, hml, hown, hts⟩ (kX0_kindAt l G g d x h e_x) (cwV 1 hts gX0_isInGap_X0_kindAt rfl rfl rfl hyX0_kindAt ⟨Nat.le_of_ble_eq_true rfl, Nat.le_of_ble_eq_true rfl⟩) hK hG hG.1 rfl rfl hl.1 rfl (Nat.le_of_ble_eq_true rfl) dX0_isInGap_2 ⟨Nat.zero_le _, Nat.zero_le _⟩ (fun z1 e1 => ?_)
  have e1 : z1.toInt = kindZ d h := e1
  refine lv_istore_n hx hb dX0_isInGap_5 rfl hl (by decide) rfl (fun ls hl => ?_)
  have hl : lv_has ls 3 [(2, .int z1), (0, .ref g), (1, .int x)] := hl
  refine lv_iload_n hx hb dX0_isInGap_6 rfl (lv_at hl 0 rfl) ?_
  refine lv_iconst (v := (1 : Int32)) hx hb dX0_isInGap_7 (by decide) ?_
  refine z_icmp_eq (tgt := 16) hx hb e1 kI_1 dX0_isInGap_8 (by decide) (fun c_2 => ?_) (fun c_2 => ?_)
  · refine lv_iconst (v := (1 : Int32)) hx hb dX0_isInGap_16 (by decide) ?_
    refine lv_goto (tgt := 21) hx hb dX0_isInGap_17 (by decide) ?_
    exact z_rb (v := (1 : Int32)) hx hb hr hlocks rfl (isB.t rfl (by unfold igP; omega)) dX0_isInGap_21
  · refine lv_iload_n hx hb dX0_isInGap_11 rfl (lv_at hl 0 rfl) ?_
    refine lv_iconst (v := (2 : Int32)) hx hb dX0_isInGap_12 (by decide) ?_
    refine z_icmp_ne (tgt := 20) hx hb e1 kI_2 dX0_isInGap_13 (by decide) (fun c_3 => ?_) (fun c_3 => ?_)
    · refine lv_iconst (v := (0 : Int32)) hx hb dX0_isInGap_20 (by decide) ?_
      exact z_rb (v := (0 : Int32)) hx hb hr hlocks rfl (isB.f rfl (by unfold igP; omega)) dX0_isInGap_21
    · refine lv_iconst (v := (1 : Int32)) hx hb dX0_isInGap_16 (by decide) ?_
      refine lv_goto (tgt := 21) hx hb dX0_isInGap_17 (by decide) ?_
      exact z_rb (v := (1 : Int32)) hx hb hr hlocks rfl (isB.t rfl (by unfold igP; omega)) dX0_isInGap_21

abbrev rmX0_startsGap : Room := { frames := 2, cells := 0, slots := 0, locals := 43 }
theorem hyX0_startsGap : yX0_startsGap.cls = RX0 ∧ yX0_startsGap.cls ≠ "java/lang/invoke/MethodHandle" ∧ yX0_startsGap.cls ≠ "java/lang/invoke/VarHandle" ∧ (parseMethodDescriptor yX0_startsGap.desc).map (fun d => d.parameters.length) = some 1 := by decide +kernel
set_option maxHeartbeats 4000000 in
set_option maxRecDepth 100000 in
theorem kX0_startsGap (l : Launch) (G : xG) (g : Nat) (d : GD) (x : Int32) (h : Int) (e_x : x.toInt = h) (hh : -1000000 ≤ h ∧ h ≤ 1000000) : Met l yX0_startsGap wsX0_startsGap rmX0_startsGap (va_Pc [.ref g, .int x] (zPre G (fun H => GA G H g d))) (zS (fun v => isB v (sgP d h))) 0 0 zno := by
  refine z_ofW (cc := cX0_startsGap) (maxL := 2) (ret := some .boolean) (by decide +kernel) rfl (Nat.le_of_ble_eq_true rfl) ?_
  intro p e s m below meth c hx hb hml hr hts hown hlocks hK hP ls hl
  have hG := hP
  have hown : s.vm.findClass RX0 = some m.cls := hown
  have hl : lv_has ls 2 [(0, .ref g), (1, .int x)] := hl
  refine lv_aload_n hx hb dX0_startsGap_0 rfl (lv_at hl 0 rfl) ?_
  refine lv_iload_n hx hb dX0_startsGap_1 rfl (lv_at hl 1 rfl) ?_
  refine z_cV (As := [.int x]) (rest := []) ⟨hx, hb, hml, hown, hts⟩ (kX0_isInGap l G g d x h e_x) (cwV 1 hts gX0_startsGap_X0_isInGap rfl rfl rfl hyX0_isInGap ⟨Nat.le_of_ble_eq_true rfl, Nat.le_of_ble_eq_true rfl⟩) hK hG hG.1 rfl rfl hl.1 rfl (Nat.le_of_ble_eq_true rfl) dX0_startsGap_2 ⟨Nat.zero_le _, Nat.zero_le _⟩ (fun z1 e1 => ?_)
  have e1 : isB z1 (igP d h) := e1
  refine z_ifb_eq (tgt := 22) hx hb e1 dX0_startsGap_5 (by decide) (fun c_2 => ?_) (fun c_2 => ?_)
  · refine lv_iconst (v := (0 : Int32)) hx hb dX0_startsGap_22 (by decide) ?_
    exact z_rb (v := (0 : Int32)) hx hb hr hlocks rfl (isB.f rfl (fun q => by first | exact absurd q.1 (by assumption) | exact absurd q.2 (by assumption) | exact q.2 (by assumption))) dX0_startsGap_23
  · refine lv_aload_n hx hb dX0_startsGap_8 rfl (lv_at hl 0 rfl) ?_
    refine lv_iload_n hx hb dX0_startsGap_9 rfl (lv_at hl 1 rfl) ?_
    refine lv_iconst (v := (1 : Int32)) hx hb dX0_startsGap_10 (by decide) ?_
    refine z_isub hx hb e_x kI_1 dX0_startsGap_11 (by omega) (fun z3 e3 => ?_)
    refine z_cV (As := [.int z3]) (rest := []) ⟨hx, hb, hml, hown, hts⟩ (kX0_isInGap l G g d z3 (h - (1 : Int)) e3) (cwV 1 hts gX0_startsGap_X0_isInGap rfl rfl rfl hyX0_isInGap ⟨Nat.le_of_ble_eq_true rfl, Nat.le_of_ble_eq_true rfl⟩) hK hG hG.1 rfl rfl hl.1 rfl (Nat.le_of_ble_eq_true rfl) dX0_startsGap_12 ⟨Nat.zero_le _, Nat.zero_le _⟩ (fun z4 e4 => ?_)
    have e4 : isB z4 (igP d (h - (1 : Int))) := e4
    refine z_ifb_ne (tgt := 22) hx hb e4 dX0_startsGap_15 (by decide) (fun c_5 => ?_) (fun c_5 => ?_)
    · refine lv_iconst (v := (0 : Int32)) hx hb dX0_startsGap_22 (by decide) ?_
      exact z_rb (v := (0 : Int32)) hx hb hr hlocks rfl (isB.f rfl (fun q => by first | exact absurd q.1 (by assumption) | exact absurd q.2 (by assumption) | exact q.2 (by assumption))) dX0_startsGap_23
    · refine lv_iconst (v := (1 : Int32)) hx hb dX0_startsGap_18 (by decide) ?_
      refine lv_goto (tgt := 23) hx hb dX0_startsGap_19 (by decide) ?_
      exact z_rb (v := (1 : Int32)) hx hb hr hlocks rfl (isB.t rfl ⟨by assumption, by assumption⟩) dX0_startsGap_23

abbrev rmX0_gaps : Room := { frames := 3, cells := 0, slots := 0, locals := 64 }
theorem hyX0_gaps : yX0_gaps.cls = RX0 ∧ yX0_gaps.cls ≠ "java/lang/invoke/MethodHandle" ∧ yX0_gaps.cls ≠ "java/lang/invoke/VarHandle" ∧ (parseMethodDescriptor yX0_gaps.desc).map (fun d => d.parameters.length) = some 0 := by decide +kernel
set_option maxHeartbeats 4000000 in
set_option maxRecDepth 100000 in
theorem kX0_gaps (l : Launch) (G : xG) (g : Nat) (d : GD) : Met l yX0_gaps wsX0_gaps rmX0_gaps (va_Pc [.ref g] (zPre G (fun H => GA G H g d))) (zS (fun v => v.toInt = cntZ (fun j => sgP d (j : Int)) 120)) 0 0 zno := by
  refine z_ofW (cc := cX0_gaps) (maxL := 3) (ret := some .int) (by decide +kernel) rfl (Nat.le_of_ble_eq_true rfl) ?_
  intro p e s m below meth c hx hb hml hr hts hown hlocks hK hP ls hl
  have hG := hP
  have hown : s.vm.findClass RX0 = some m.cls := hown
  have hl : lv_has ls 3 [(0, .ref g)] := hl
  have cut4 : ∀ (n4 : Nat), ∀ (x1 : Int32) (i1 : Int) (_ : x1.toInt = i1) (x2 : Int32) (i2 : Int) (_ : x2.toInt = i2), (120 - i2).toNat < n4 → (0 ≤ i2 ∧ i2 ≤ 120) → (i1 = cntZ (fun j => sgP d (j : Int)) i2.toNat) → ∀ ls : Array Slot, lv_has ls 3 [(0, .ref g), (1, .int x1), (2, .int x2)] → W p l e rmX0_gaps s m ([.ref g] : List Value).toArray below meth c s.heap [] 0 0 (MQ below (zS (fun v => v.toInt = cntZ (fun j => sgP d (j : Int)) 120)) ([.ref g] : List Value).toArray s 0 0 zno) (F0 m 4 ls []) := by
    intro n4
    induction n4 with
    | zero =>
      intro x1 i1 hx1 x2 i2 hx2 hmu4 hi4_0 hi4_1 ls hl
      exact absurd hmu4 (Nat.not_lt_zero _)
    | succ n4 ih4 =>
      intro x1 i1 hx1 x2 i2 hx2 hmu4 hi4_0 hi4_1 ls hl
      have hcb := cntZ_b (fun j => sgP d (j : Int)) i2.toNat
      refine lv_iload_n hx hb dX0_gaps_4 rfl (lv_at hl 2 rfl) ?_
      refine lv_bipush (v := (120 : Int32)) hx hb dX0_gaps_5 (by decide) ?_
      refine z_icmp_ge (tgt := 27) hx hb hx2 kI_120 dX0_gaps_7 (by decide) (fun c_1 => ?_) (fun c_1 => ?_)
      · refine lv_iload_n hx hb dX0_gaps_27 rfl (lv_at hl 1 rfl) ?_
        exact z_ri (v := x1) hx hb hr hlocks (show x1.toInt = cntZ (fun j => sgP d (j : Int)) 120 from (by rw [hx1, hi4_1, show i2 = 120 by omega]; rfl)) dX0_gaps_28
      · refine lv_aload_n hx hb dX0_gaps_10 rfl (lv_at hl 0 rfl) ?_
        refine lv_iload_n hx hb dX0_gaps_11 rfl (lv_at hl 2 rfl) ?_
        refine z_cV (As := [.int x2]) (rest := []) ⟨hx, hb, hml, hown, hts⟩ (kX0_startsGap l G g d x2 i2 hx2 (by first | assumption | omega)) (cwV 1 hts gX0_gaps_X0_startsGap rfl rfl rfl hyX0_startsGap ⟨Nat.le_of_ble_eq_true rfl, Nat.le_of_ble_eq_true rfl⟩) hK hG hG.1 rfl rfl hl.1 rfl (Nat.le_of_ble_eq_true rfl) dX0_gaps_12 ⟨Nat.zero_le _, Nat.zero_le _⟩ (fun z2 e2 => ?_)
        have e2 : isB z2 (sgP d i2) := e2
        refine z_ifb_eq (tgt := 21) hx hb e2 dX0_gaps_15 (by decide) (fun c_3 => ?_) (fun c_3 => ?_)
        · refine z_iinc (k := 2) hx hb dX0_gaps_21 hl rfl hx2 (show (Int32.ofInt 1).toInt = (1 : Int) from rfl) (by omega) (by decide) (fun z4 e4 ls hl => ?_)
          have hl : lv_has ls 3 [(2, .int z4), (0, .ref g), (1, .int x1)] := hl
          refine lv_goto (tgt := 4) hx hb dX0_gaps_24 (by decide) ?_
          exact ih4 x1 i1 hx1 z4 (i2 + (1 : Int)) e4 (by omega) (by omega) (by rw [cntI_f (q := sgP d) (by omega) (by assumption)]; omega) ls (lv_sub hl [1, 2, 0] rfl)
        · refine z_iinc (k := 1) hx hb dX0_gaps_18 hl rfl hx1 (show (Int32.ofInt 1).toInt = (1 : Int) from rfl) (by omega) (by decide) (fun z5 e5 ls hl => ?_)
          have hl : lv_has ls 3 [(1, .int z5), (0, .ref g), (2, .int x2)] := hl
          refine z_iinc (k := 2) hx hb dX0_gaps_21 hl rfl hx2 (show (Int32.ofInt 1).toInt = (1 : Int) from rfl) (by omega) (by decide) (fun z6 e6 ls hl => ?_)
          have hl : lv_has ls 3 [(2, .int z6), (1, .int z5), (0, .ref g)] := hl
          refine lv_goto (tgt := 4) hx hb dX0_gaps_24 (by decide) ?_
          exact ih4 z5 (i1 + (1 : Int)) e5 z6 (i2 + (1 : Int)) e6 (by omega) (by omega) (by rw [cntI_t (q := sgP d) (by omega) (by assumption)]; omega) ls (lv_sub hl [2, 1, 0] rfl)
  refine lv_iconst (v := (0 : Int32)) hx hb dX0_gaps_0 (by decide) ?_
  refine lv_istore_n hx hb dX0_gaps_1 rfl hl (by decide) rfl (fun ls hl => ?_)
  have hl : lv_has ls 3 [(1, .int (0 : Int32)), (0, .ref g)] := hl
  refine lv_iconst (v := (0 : Int32)) hx hb dX0_gaps_2 (by decide) ?_
  refine lv_istore_n hx hb dX0_gaps_3 rfl hl (by decide) rfl (fun ls hl => ?_)
  have hl : lv_has ls 3 [(2, .int (0 : Int32)), (1, .int (0 : Int32)), (0, .ref g)] := hl
  exact cut4 (((120 - (0 : Int)).toNat) + 1) (0 : Int32) (0 : Int) kI_0 (0 : Int32) (0 : Int) kI_0 (Nat.lt_succ_self _) (by omega) rfl ls (lv_sub hl [2, 1, 0] rfl)

abbrev rmX0_firstHourOfGap : Room := { frames := 3, cells := 0, slots := 0, locals := 64 }
theorem hyX0_firstHourOfGap : yX0_firstHourOfGap.cls = RX0 ∧ yX0_firstHourOfGap.cls ≠ "java/lang/invoke/MethodHandle" ∧ yX0_firstHourOfGap.cls ≠ "java/lang/invoke/VarHandle" ∧ (parseMethodDescriptor yX0_firstHourOfGap.desc).map (fun d => d.parameters.length) = some 1 := by decide +kernel
set_option maxHeartbeats 4000000 in
set_option maxRecDepth 100000 in
theorem kX0_firstHourOfGap (l : Launch) (G : xG) (g : Nat) (d : GD) (x : Int32) (k : Int) (e_x : x.toInt = k) : Met l yX0_firstHourOfGap wsX0_firstHourOfGap rmX0_firstHourOfGap (va_Pc [.ref g, .int x] (zPre G (fun H => GA G H g d))) (zS (fun v => v.toInt = fgZ d k)) 0 0 zno := by
  refine z_ofW (cc := cX0_firstHourOfGap) (maxL := 4) (ret := some .int) (by decide +kernel) rfl (Nat.le_of_ble_eq_true rfl) ?_
  intro p e s m below meth c hx hb hml hr hts hown hlocks hK hP ls hl
  have hG := hP
  have hown : s.vm.findClass RX0 = some m.cls := hown
  have hl : lv_has ls 4 [(0, .ref g), (1, .int x)] := hl
  have cut4 : ∀ (n4 : Nat), ∀ (x2 : Int32) (i2 : Int) (_ : x2.toInt = i2) (x3 : Int32) (i3 : Int) (_ : x3.toInt = i3), (120 - i3).toNat < n4 → (0 ≤ i3 ∧ i3 ≤ 120) → (i2 = cntZ (fun j => sgP d (j : Int)) i3.toNat) → (nthZ (fun j => sgP d (j : Int)) k i3.toNat = -1) → ∀ ls : Array Slot, lv_has ls 4 [(0, .ref g), (1, .int x), (2, .int x2), (3, .int x3)] → W p l e rmX0_firstHourOfGap s m ([.ref g, .int x] : List Value).toArray below meth c s.heap [] 0 0 (MQ below (zS (fun v => v.toInt = fgZ d k)) ([.ref g, .int x] : List Value).toArray s 0 0 zno) (F0 m 4 ls []) := by
    intro n4
    induction n4 with
    | zero =>
      intro x2 i2 hx2 x3 i3 hx3 hmu4 hi4_0 hi4_1 hi4_2 ls hl
      exact absurd hmu4 (Nat.not_lt_zero _)
    | succ n4 ih4 =>
      intro x2 i2 hx2 x3 i3 hx3 hmu4 hi4_0 hi4_1 hi4_2 ls hl
      have hcb := cntZ_b (fun j => sgP d (j : Int)) i3.toNat
      refine lv_iload_n hx hb dX0_firstHourOfGap_4 rfl (lv_at hl 3 rfl) ?_
      refine lv_bipush (v := (120 : Int32)) hx hb dX0_firstHourOfGap_5 (by decide) ?_
      refine z_icmp_ge (tgt := 34) hx hb hx3 kI_120 dX0_firstHourOfGap_7 (by decide) (fun c_1 => ?_) (fun c_1 => ?_)
      · refine lv_iconst (v := (-1 : Int32)) hx hb dX0_firstHourOfGap_34 (by decide) ?_
        exact z_ri (v := (-1 : Int32)) hx hb hr hlocks (show (-1 : Int32).toInt = fgZ d k from (by rw [show i3 = 120 by omega] at hi4_2; exact hi4_2.symm)) dX0_firstHourOfGap_35
      · refine lv_aload_n hx hb dX0_firstHourOfGap_10 rfl (lv_at hl 0 rfl) ?_
        refine lv_iload_n hx hb dX0_firstHourOfGap_11 rfl (lv_at hl 3 rfl) ?_
        refine z_cV (As := [.int x3]) (rest := []) ⟨hx, hb, hml, hown, hts⟩ (kX0_startsGap l G g d x3 i3 hx3 (by first | assumption | omega)) (cwV 1 hts gX0_firstHourOfGap_X0_startsGap rfl rfl rfl hyX0_startsGap ⟨Nat.le_of_ble_eq_true rfl, Nat.le_of_ble_eq_true rfl⟩) hK hG hG.1 rfl rfl hl.1 rfl (Nat.le_of_ble_eq_true rfl) dX0_firstHourOfGap_12 ⟨Nat.zero_le _, Nat.zero_le _⟩ (fun z2 e2 => ?_)
        have e2 : isB z2 (sgP d i3) := e2
        refine z_ifb_eq (tgt := 28) hx hb e2 dX0_firstHourOfGap_15 (by decide) (fun c_3 => ?_) (fun c_3 => ?_)
        · refine z_iinc (k := 3) hx hb dX0_firstHourOfGap_28 hl rfl hx3 (show (Int32.ofInt 1).toInt = (1 : Int) from rfl) (by omega) (by decide) (fun z4 e4 ls hl => ?_)
          have hl : lv_has ls 4 [(3, .int z4), (0, .ref g), (1, .int x), (2, .int x2)] := hl
          refine lv_goto (tgt := 4) hx hb dX0_firstHourOfGap_31 (by decide) ?_
          exact ih4 x2 i2 hx2 z4 (i3 + (1 : Int)) e4 (by omega) (by omega) (by rw [cntI_f (q := sgP d) (by omega) (by assumption)]; omega) (nthI_step (q := sgP d) (by omega) hi4_2 (fun q => absurd q.1 (by assumption))) ls (lv_sub hl [1, 2, 3, 0] rfl)
        · refine lv_iload_n hx hb dX0_firstHourOfGap_18 rfl (lv_at hl 2 rfl) ?_
          refine lv_iload_n hx hb dX0_firstHourOfGap_19 rfl (lv_at hl 1 rfl) ?_
          refine z_icmp_ne (tgt := 25) hx hb hx2 e_x dX0_firstHourOfGap_20 (by decide) (fun c_5 => ?_) (fun c_5 => ?_)
          · refine z_iinc (k := 2) hx hb dX0_firstHourOfGap_25 hl rfl hx2 (show (Int32.ofInt 1).toInt = (1 : Int) from rfl) (by omega) (by decide) (fun z6 e6 ls hl => ?_)
            have hl : lv_has ls 4 [(2, .int z6), (0, .ref g), (1, .int x), (3, .int x3)] := hl
            refine z_iinc (k := 3) hx hb dX0_firstHourOfGap_28 hl rfl hx3 (show (Int32.ofInt 1).toInt = (1 : Int) from rfl) (by omega) (by decide) (fun z7 e7 ls hl => ?_)
            have hl : lv_has ls 4 [(3, .int z7), (2, .int z6), (0, .ref g), (1, .int x)] := hl
            refine lv_goto (tgt := 4) hx hb dX0_firstHourOfGap_31 (by decide) ?_
            exact ih4 z6 (i2 + (1 : Int)) e6 z7 (i3 + (1 : Int)) e7 (by omega) (by omega) (by rw [cntI_t (q := sgP d) (by omega) (by assumption)]; omega) (nthI_step (q := sgP d) (by omega) hi4_2 (fun q => by omega)) ls (lv_sub hl [2, 3, 1, 0] rfl)
          · refine lv_iload_n hx hb dX0_firstHourOfGap_23 rfl (lv_at hl 3 rfl) ?_
            exact z_ri (v := x3) hx hb hr hlocks (show x3.toInt = fgZ d k from (by rw [hx3]; exact (nthI_hit (q := sgP d) (by omega) hi4_2 (by assumption) (by omega) (by omega)).symm)) dX0_firstHourOfGap_24
  refine lv_iconst (v := (0 : Int32)) hx hb dX0_firstHourOfGap_0 (by decide) ?_
  refine lv_istore_n hx hb dX0_firstHourOfGap_1 rfl hl (by decide) rfl (fun ls hl => ?_)
  have hl : lv_has ls 4 [(2, .int (0 : Int32)), (0, .ref g), (1, .int x)] := hl
  refine lv_iconst (v := (0 : Int32)) hx hb dX0_firstHourOfGap_2 (by decide) ?_
  refine lv_istore_n hx hb dX0_firstHourOfGap_3 rfl hl (by decide) rfl (fun ls hl => ?_)
  have hl : lv_has ls 4 [(3, .int (0 : Int32)), (2, .int (0 : Int32)), (0, .ref g), (1, .int x)] := hl
  exact cut4 (((120 - (0 : Int)).toNat) + 1) (0 : Int32) (0 : Int) kI_0 (0 : Int32) (0 : Int) kI_0 (Nat.lt_succ_self _) (by omega) rfl rfl ls (lv_sub hl [2, 3, 1, 0] rfl)

abbrev rmX0_hasGap : Room := { frames := 4, cells := 0, slots := 0, locals := 87 }
theorem hyX0_hasGap : yX0_hasGap.cls = RX0 ∧ yX0_hasGap.cls ≠ "java/lang/invoke/MethodHandle" ∧ yX0_hasGap.cls ≠ "java/lang/invoke/VarHandle" ∧ (parseMethodDescriptor yX0_hasGap.desc).map (fun d => d.parameters.length) = some 1 := by decide +kernel
set_option maxHeartbeats 4000000 in
set_option maxRecDepth 100000 in
theorem kX0_hasGap (l : Launch) (G : xG) (g : Nat) (d : GD) (x : Int32) (k : Int) (e_x : x.toInt = k) : Met l yX0_hasGap wsX0_hasGap rmX0_hasGap (va_Pc [.ref g, .int x] (zPre G (fun H => GA G H g d))) (zS (fun v => isB v (fgZ d k ≠ -1))) 0 0 zno := by
  refine z_ofW (cc := cX0_hasGap) (maxL := 2) (ret := some .boolean) (by decide +kernel) rfl (Nat.le_of_ble_eq_true rfl) ?_
  intro p e s m below meth c hx hb hml hr hts hown hlocks hK hP ls hl
  have hG := hP
  have hown : s.vm.findClass RX0 = some m.cls := hown
  have hl : lv_has ls 2 [(0, .ref g), (1, .int x)] := hl
  refine lv_aload_n hx hb dX0_hasGap_0 rfl (lv_at hl 0 rfl) ?_
  refine lv_iload_n hx hb dX0_hasGap_1 rfl (lv_at hl 1 rfl) ?_
  refine z_cV (As := [.int x]) (rest := []) ⟨hx, hb, hml, hown, hts⟩ (kX0_firstHourOfGap l G g d x k e_x) (cwV 1 hts gX0_hasGap_X0_firstHourOfGap rfl rfl rfl hyX0_firstHourOfGap ⟨Nat.le_of_ble_eq_true rfl, Nat.le_of_ble_eq_true rfl⟩) hK hG hG.1 rfl rfl hl.1 rfl (Nat.le_of_ble_eq_true rfl) dX0_hasGap_2 ⟨Nat.zero_le _, Nat.zero_le _⟩ (fun z1 e1 => ?_)
  have e1 : z1.toInt = fgZ d k := e1
  refine lv_iconst (v := (-1 : Int32)) hx hb dX0_hasGap_5 (by decide) ?_
  refine z_icmp_eq (tgt := 13) hx hb e1 kI_m1 dX0_hasGap_6 (by decide) (fun c_2 => ?_) (fun c_2 => ?_)
  · refine lv_iconst (v := (0 : Int32)) hx hb dX0_hasGap_13 (by decide) ?_
    exact z_rb (v := (0 : Int32)) hx hb hr hlocks rfl (isB.f rfl (by omega)) dX0_hasGap_14
  · refine lv_iconst (v := (1 : Int32)) hx hb dX0_hasGap_9 (by decide) ?_
    refine lv_goto (tgt := 14) hx hb dX0_hasGap_10 (by decide) ?_
    exact z_rb (v := (1 : Int32)) hx hb hr hlocks rfl (isB.t rfl (by omega)) dX0_hasGap_14

abbrev rmX0_hourBehindGapFrom : Room := { frames := 2, cells := 0, slots := 0, locals := 43 }
theorem hyX0_hourBehindGapFrom : yX0_hourBehindGapFrom.cls = RX0 ∧ yX0_hourBehindGapFrom.cls ≠ "java/lang/invoke/MethodHandle" ∧ yX0_hourBehindGapFrom.cls ≠ "java/lang/invoke/VarHandle" ∧ (parseMethodDescriptor yX0_hourBehindGapFrom.desc).map (fun d => d.parameters.length) = some 1 := by decide +kernel
set_option maxHeartbeats 4000000 in
set_option maxRecDepth 100000 in
theorem kX0_hourBehindGapFrom (l : Launch) (G : xG) (g : Nat) (d : GD) (x : Int32) (h : Int) (e_x : x.toInt = h) (hh : -1000000 ≤ h) : Met l yX0_hourBehindGapFrom wsX0_hourBehindGapFrom rmX0_hourBehindGapFrom (va_Pc [.ref g, .int x] (zPre G (fun H => GA G H g d))) (zS (fun v => v.toInt = hbZ d h)) 0 0 zno := by
  refine z_ofW (cc := cX0_hourBehindGapFrom) (maxL := 3) (ret := some .int) (by decide +kernel) rfl (Nat.le_of_ble_eq_true rfl) ?_
  intro p e s m below meth c hx hb hml hr hts hown hlocks hK hP ls hl
  have hG := hP
  have hown : s.vm.findClass RX0 = some m.cls := hown
  have hl : lv_has ls 3 [(0, .ref g), (1, .int x)] := hl
  have cut2 : ∀ (n2 : Nat), ∀ (x2 : Int32) (i2 : Int) (_ : x2.toInt = i2), (120 - i2).toNat < n2 → (h ≤ i2) → (hbZ d h = hbZ d i2) → ∀ ls : Array Slot, lv_has ls 3 [(0, .ref g), (1, .int x), (2, .int x2)] → W p l e rmX0_hourBehindGapFrom s m ([.ref g, .int x] : List Value).toArray below meth c s.heap [] 0 0 (MQ below (zS (fun v => v.toInt = hbZ d h)) ([.ref g, .int x] : List Value).toArray s 0 0 zno) (F0 m 2 ls []) := by
    intro n2
    induction n2 with
    | zero =>
      intro x2 i2 hx2 hmu2 hi2_0 hi2_1 ls hl
      exact absurd hmu2 (Nat.not_lt_zero _)
    | succ n2 ih2 =>
      intro x2 i2 hx2 hmu2 hi2_0 hi2_1 ls hl
      refine lv_iload_n hx hb dX0_hourBehindGapFrom_2 rfl (lv_at hl 2 rfl) ?_
      refine lv_bipush (v := (120 : Int32)) hx hb dX0_hourBehindGapFrom_3 (by decide) ?_
      refine z_icmp_ge (tgt := 22) hx hb hx2 kI_120 dX0_hourBehindGapFrom_5 (by decide) (fun c_1 => ?_) (fun c_1 => ?_)
      · refine lv_iload_n hx hb dX0_hourBehindGapFrom_22 rfl (lv_at hl 2 rfl) ?_
        exact z_ri (v := x2) hx hb hr hlocks (show x2.toInt = hbZ d h from (by rw [hx2, hi2_1, hbZ_f]; intro q; first | omega | exact absurd q.2 (by assumption))) dX0_hourBehindGapFrom_23
      · refine lv_aload_n hx hb dX0_hourBehindGapFrom_8 rfl (lv_at hl 0 rfl) ?_
        refine lv_iload_n hx hb dX0_hourBehindGapFrom_9 rfl (lv_at hl 2 rfl) ?_
        refine z_cV (As := [.int x2]) (rest := []) ⟨hx, hb, hml, hown, hts⟩ (kX0_isInGap l G g d x2 i2 hx2) (cwV 1 hts gX0_hourBehindGapFrom_X0_isInGap rfl rfl rfl hyX0_isInGap ⟨Nat.le_of_ble_eq_true rfl, Nat.le_of_ble_eq_true rfl⟩) hK hG hG.1 rfl rfl hl.1 rfl (Nat.le_of_ble_eq_true rfl) dX0_hourBehindGapFrom_10 ⟨Nat.zero_le _, Nat.zero_le _⟩ (fun z2 e2 => ?_)
        have e2 : isB z2 (igP d i2) := e2
        refine z_ifb_eq (tgt := 22) hx hb e2 dX0_hourBehindGapFrom_13 (by decide) (fun c_3 => ?_) (fun c_3 => ?_)
        · refine lv_iload_n hx hb dX0_hourBehindGapFrom_22 rfl (lv_at hl 2 rfl) ?_
          exact z_ri (v := x2) hx hb hr hlocks (show x2.toInt = hbZ d h from (by rw [hx2, hi2_1, hbZ_f]; intro q; first | omega | exact absurd q.2 (by assumption))) dX0_hourBehindGapFrom_23
        · refine z_iinc (k := 2) hx hb dX0_hourBehindGapFrom_16 hl rfl hx2 (show (Int32.ofInt 1).toInt = (1 : Int) from rfl) (by omega) (by decide) (fun z4 e4 ls hl => ?_)
          have hl : lv_has ls 3 [(2, .int z4), (0, .ref g), (1, .int x)] := hl
          refine lv_goto (tgt := 2) hx hb dX0_hourBehindGapFrom_19 (by decide) ?_
          exact ih2 z4 (i2 + (1 : Int)) e4 (by omega) (by omega) (by rw [hi2_1]; exact hbZ_t (by omega) (by assumption)) ls (lv_sub hl [1, 2, 0] rfl)
  refine lv_iload_n hx hb dX0_hourBehindGapFrom_0 rfl (lv_at hl 1 rfl) ?_
  refine lv_istore_n hx hb dX0_hourBehindGapFrom_1 rfl hl (by decide) rfl (fun ls hl => ?_)
  have hl : lv_has ls 3 [(2, .int x), (0, .ref g), (1, .int x)] := hl
  exact cut2 (((120 - h).toNat) + 1) x h e_x (Nat.lt_succ_self _) (by omega) rfl ls (lv_sub hl [1, 2, 0] rfl)

abbrev rmX0_isInner : Room := { frames := 4, cells := 0, slots := 0, locals := 87 }
theorem hyX0_isInner : yX0_isInner.cls = RX0 ∧ yX0_isInner.cls ≠ "java/lang/invoke/MethodHandle" ∧ yX0_isInner.cls ≠ "java/lang/invoke/VarHandle" ∧ (parseMethodDescriptor yX0_isInner.desc).map (fun d => d.parameters.length) = some 1 := by decide +kernel
set_option maxHeartbeats 4000000 in
set_option maxRecDepth 100000 in
theorem kX0_isInner (l : Launch) (G : xG) (g : Nat) (d : GD) (x : Int32) (k : Int) (e_x : x.toInt = k) : Met l yX0_isInner wsX0_isInner rmX0_isInner (va_Pc [.ref g, .int x] (zPre G (fun H => GA G H g d))) (zS (fun v => isB v (kindZ d (fgZ d k - 1) = 0 ∧ kindZ d (hbZ d (fgZ d k)) = 0))) 0 0 zno := by
  refine z_ofW (cc := cX0_isInner) (maxL := 3) (ret := some .boolean) (by decide +kernel) rfl (Nat.le_of_ble_eq_true rfl) ?_
  intro p e s m below meth c hx hb hml hr hts hown hlocks hK hP ls hl
  have hG := hP
  have hown : s.vm.findClass RX0 = some m.cls := hown
  have hl : lv_has ls 3 [(0, .ref g), (1, .int x)] := hl
  have hfb := fgZ_b d k
  refine lv_aload_n hx hb dX0_isInner_0 rfl (lv_at hl 0 rfl) ?_
  refine lv_iload_n hx hb dX0_isInner_1 rfl (lv_at hl 1 rfl) ?_
  refine z_cV (As := [.int x]) (rest := []) ⟨hx, hb, hml, hown, hts⟩ (kX0_firstHourOfGap l G g d x k e_x) (cwV 1 hts gX0_isInner_X0_firstHourOfGap rfl rfl rfl hyX0_firstHourOfGap ⟨Nat.le_of_ble_eq_true rfl, Nat.le_of_ble_eq_true rfl⟩) hK hG hG.1 rfl rfl hl.1 rfl (Nat.le_of_ble_eq_true rfl) dX0_isInner_2 ⟨Nat.zero_le _, Nat.zero_le _⟩ (fun z1 e1 => ?_)
  have e1 : z1.toInt = fgZ d k := e1
  refine lv_istore_n hx hb dX0_isInner_5 rfl hl (by decide) rfl (fun ls hl => ?_)
  have hl : lv_has ls 3 [(2, .int z1), (0, .ref g), (1, .int x)] := hl
  refine lv_aload_n hx hb dX0_isInner_6 rfl (lv_at hl 1 rfl) ?_
  refine lv_iload_n hx hb dX0_isInner_7 rfl (lv_at hl 0 rfl) ?_
  refine lv_iconst (v := (1 : Int32)) hx hb dX0_isInner_8 (by decide) ?_
  refine z_isub hx hb e1 kI_1 dX0_isInner_9 (by omega) (fun z2 e2 => ?_)
  refine z_cV (As := [.int z2]) (rest := []) ⟨hx, hb, hml, hown, hts⟩ (kX0_hasReading l G g d z2 ((fgZ d k) - (1 : Int)) e2) (cwV 1 hts gX0_isInner_X0_hasReading rfl rfl rfl hyX0_hasReading ⟨Nat.le_of_ble_eq_true rfl, Nat.le_of_ble_eq_true rfl⟩) hK hG hG.1 rfl rfl hl.1 rfl (Nat.le_of_ble_eq_true rfl) dX0_isInner_10 ⟨Nat.zero_le _, Nat.zero_le _⟩ (fun z3 e3 => ?_)
  have e3 : isB z3 (kindZ d ((fgZ d k) - (1 : Int)) = 0) := e3
  refine z_ifb_eq (tgt := 32) hx hb e3 dX0_isInner_13 (by decide) (fun c_4 => ?_) (fun c_4 => ?_)
  · refine lv_iconst (v := (0 : Int32)) hx hb dX0_isInner_32 (by decide) ?_
    exact z_rb (v := (0 : Int32)) hx hb hr hlocks rfl (isB.f rfl (fun q => by first | exact absurd q.1 (by assumption) | exact absurd q.2 (by assumption))) dX0_isInner_33
  · refine lv_aload_n hx hb dX0_isInner_16 rfl (lv_at hl 1 rfl) ?_
    refine lv_aload_n hx hb dX0_isInner_17 rfl (lv_at hl 1 rfl) ?_
    refine lv_iload_n hx hb dX0_isInner_18 rfl (lv_at hl 0 rfl) ?_
    refine z_cV (As := [.int z1]) (rest := [.ref g]) ⟨hx, hb, hml, hown, hts⟩ (kX0_hourBehindGapFrom l G g d z1 (fgZ d k) e1 (by first | assumption | omega)) (cwV 1 hts gX0_isInner_X0_hourBehindGapFrom rfl rfl rfl hyX0_hourBehindGapFrom ⟨Nat.le_of_ble_eq_true rfl, Nat.le_of_ble_eq_true rfl⟩) hK hG hG.1 rfl rfl hl.1 rfl (Nat.le_of_ble_eq_true rfl) dX0_isInner_19 ⟨Nat.zero_le _, Nat.zero_le _⟩ (fun z5 e5 => ?_)
    have e5 : z5.toInt = hbZ d (fgZ d k) := e5
    refine z_cV (As := [.int z5]) (rest := []) ⟨hx, hb, hml, hown, hts⟩ (kX0_hasReading l G g d z5 (hbZ d (fgZ d k)) e5) (cwV 1 hts gX0_isInner_X0_hasReading rfl rfl rfl hyX0_hasReading ⟨Nat.le_of_ble_eq_true rfl, Nat.le_of_ble_eq_true rfl⟩) hK hG hG.1 rfl rfl hl.1 rfl (Nat.le_of_ble_eq_true rfl) dX0_isInner_22 ⟨Nat.zero_le _, Nat.zero_le _⟩ (fun z6 e6 => ?_)
    have e6 : isB z6 (kindZ d (hbZ d (fgZ d k)) = 0) := e6
    refine z_ifb_eq (tgt := 32) hx hb e6 dX0_isInner_25 (by decide) (fun c_7 => ?_) (fun c_7 => ?_)
    · refine lv_iconst (v := (0 : Int32)) hx hb dX0_isInner_32 (by decide) ?_
      exact z_rb (v := (0 : Int32)) hx hb hr hlocks rfl (isB.f rfl (fun q => by first | exact absurd q.1 (by assumption) | exact absurd q.2 (by assumption))) dX0_isInner_33
    · refine lv_iconst (v := (1 : Int32)) hx hb dX0_isInner_28 (by decide) ?_
      refine lv_goto (tgt := 33) hx hb dX0_isInner_29 (by decide) ?_
      exact z_rb (v := (1 : Int32)) hx hb hr hlocks rfl (isB.t rfl ⟨by assumption, by assumption⟩) dX0_isInner_33
