abbrev rmX4_isWithin : Room := { frames := 0, cells := 0, slots := 0, locals := 0 }
theorem hyX4_isWithin : yX4_isWithin.cls ≠ "java/lang/invoke/MethodHandle" ∧ yX4_isWithin.cls ≠ "java/lang/invoke/VarHandle" ∧ (parseMethodDescriptor yX4_isWithin.desc).map (fun d => d.parameters.length) = some 3 := by decide +kernel
set_option maxHeartbeats 4000000 in
set_option maxRecDepth 100000 in
theorem kX4_isWithin (l : Launch) (G : xG) (x : Int32) (n : Int) (e_x : x.toInt = n) (y : Int32) (lo : Int) (e_y : y.toInt = lo) (z : Int32) (hi : Int) (e_z : z.toInt = hi) : Met l yX4_isWithin wsX4_isWithin rmX4_isWithin (va_Pc [.int x, .int y, .int z] (zPre G (fun H => True))) (zS (fun v => isB v (lo ≤ n ∧ n ≤ hi))) 0 0 zno := by
  refine z_ofW (cc := cX4_isWithin) (maxL := 3) (ret := some .boolean) (by decide +kernel) rfl (Nat.le_of_ble_eq_true rfl) ?_
  intro p e s m below meth c hx hb hml hr hts hown hlocks hK hP ls hl
  have hown : s.vm.findClass RX4 = some m.cls := hown
  have hl : lv_has ls 3 [(0, .int x), (1, .int y), (2, .int z)] := hl
  refine lv_iload_n hx hb dX4_isWithin_0 rfl (lv_at hl 0 rfl) ?_
  refine lv_iload_n hx hb dX4_isWithin_1 rfl (lv_at hl 1 rfl) ?_
  refine z_icmp_lt (tgt := 14) hx hb e_x e_y dX4_isWithin_2 (by decide) (fun c_1 => ?_) (fun c_1 => ?_)
  · refine lv_iconst (v := (0 : Int32)) hx hb dX4_isWithin_14 (by decide) ?_
    exact z_rb (v := (0 : Int32)) hx hb hr hlocks rfl (isB.f rfl (by omega)) dX4_isWithin_15
  · refine lv_iload_n hx hb dX4_isWithin_5 rfl (lv_at hl 0 rfl) ?_
    refine lv_iload_n hx hb dX4_isWithin_6 rfl (lv_at hl 2 rfl) ?_
    refine z_icmp_gt (tgt := 14) hx hb e_x e_z dX4_isWithin_7 (by decide) (fun c_2 => ?_) (fun c_2 => ?_)
    · refine lv_iconst (v := (0 : Int32)) hx hb dX4_isWithin_14 (by decide) ?_
      exact z_rb (v := (0 : Int32)) hx hb hr hlocks rfl (isB.f rfl (by omega)) dX4_isWithin_15
    · refine lv_iconst (v := (1 : Int32)) hx hb dX4_isWithin_10 (by decide) ?_
      refine lv_goto (tgt := 15) hx hb dX4_isWithin_11 (by decide) ?_
      exact z_rb (v := (1 : Int32)) hx hb hr hlocks rfl (isB.t rfl (by omega)) dX4_isWithin_15

abbrev rmX4_isStation : Room := { frames := 0, cells := 0, slots := 0, locals := 0 }
theorem hyX4_isStation : yX4_isStation.cls ≠ "java/lang/invoke/MethodHandle" ∧ yX4_isStation.cls ≠ "java/lang/invoke/VarHandle" ∧ (parseMethodDescriptor yX4_isStation.desc).map (fun d => d.parameters.length) = some 1 := by decide +kernel
set_option maxHeartbeats 4000000 in
set_option maxRecDepth 100000 in
theorem kX4_isStation (l : Launch) (G : xG) (x : Int32) (n : Int) (e_x : x.toInt = n) : Met l yX4_isStation wsX4_isStation rmX4_isStation (va_Pc [.int x] (zPre G (fun H => True))) (zS (fun v => isB v (0 ≤ n ∧ n < 3))) 0 0 zno := by
  refine z_ofW (cc := cX4_isStation) (maxL := 1) (ret := some .boolean) (by decide +kernel) rfl (Nat.le_of_ble_eq_true rfl) ?_
  intro p e s m below meth c hx hb hml hr hts hown hlocks hK hP ls hl
  have hown : s.vm.findClass RX4 = some m.cls := hown
  have hl : lv_has ls 1 [(0, .int x)] := hl
  refine lv_iload_n hx hb dX4_isStation_0 rfl (lv_at hl 0 rfl) ?_
  refine z_if_lt (tgt := 13) hx hb e_x dX4_isStation_1 (by decide) (fun c_1 => ?_) (fun c_1 => ?_)
  · refine lv_iconst (v := (0 : Int32)) hx hb dX4_isStation_13 (by decide) ?_
    exact z_rb (v := (0 : Int32)) hx hb hr hlocks rfl (isB.f rfl (by omega)) dX4_isStation_14
  · refine lv_iload_n hx hb dX4_isStation_4 rfl (lv_at hl 0 rfl) ?_
    refine lv_iconst (v := (3 : Int32)) hx hb dX4_isStation_5 (by decide) ?_
    refine z_icmp_ge (tgt := 13) hx hb e_x kI_3 dX4_isStation_6 (by decide) (fun c_2 => ?_) (fun c_2 => ?_)
    · refine lv_iconst (v := (0 : Int32)) hx hb dX4_isStation_13 (by decide) ?_
      exact z_rb (v := (0 : Int32)) hx hb hr hlocks rfl (isB.f rfl (by omega)) dX4_isStation_14
    · refine lv_iconst (v := (1 : Int32)) hx hb dX4_isStation_9 (by decide) ?_
      refine lv_goto (tgt := 14) hx hb dX4_isStation_10 (by decide) ?_
      exact z_rb (v := (1 : Int32)) hx hb hr hlocks rfl (isB.t rfl (by omega)) dX4_isStation_14

abbrev rmX0_kindAt : Room := { frames := 0, cells := 0, slots := 0, locals := 0 }
theorem iwX0_kindAt_0 : ∀ w ∈ wsX00, w ∈ wsX0_kindAt := fun _ h => List.mem_cons_of_mem _ (List.mem_append_right _ h)
theorem flX0_kindAt_23 : Cond.fieldLink RX0 23 "SiltedFloats$Gauge" "kinds" "[I" ∈ wsX0_kindAt := by decide +kernel
theorem hyX0_kindAt : yX0_kindAt.cls = RX0 ∧ yX0_kindAt.cls ≠ "java/lang/invoke/MethodHandle" ∧ yX0_kindAt.cls ≠ "java/lang/invoke/VarHandle" ∧ (parseMethodDescriptor yX0_kindAt.desc).map (fun d => d.parameters.length) = some 1 := by decide +kernel
set_option maxHeartbeats 4000000 in
set_option maxRecDepth 100000 in
theorem kX0_kindAt (l : Launch) (G : xG) (g : Nat) (d : GD) (x : Int32) (h : Int) (e_x : x.toInt = h) : Met l yX0_kindAt wsX0_kindAt rmX0_kindAt (va_Pc [.ref g, .int x] (zPre G (fun H => GA G H g d))) (zS (fun v => v.toInt = kindZ d h)) 0 0 zno := by
  refine z_ofW (cc := cX0_kindAt) (maxL := 2) (ret := some .int) (by decide +kernel) rfl (Nat.le_of_ble_eq_true rfl) ?_
  intro p e s m below meth c hx hb hml hr hts hown hlocks hK hP ls hl
  have hG := hP
  have hown : s.vm.findClass RX0 = some m.cls := hown
  have hl : lv_has ls 2 [(0, .ref g), (1, .int x)] := hl
  refine lv_iload_n hx hb dX0_kindAt_0 rfl (lv_at hl 1 rfl) ?_
  refine z_if_lt (tgt := 22) hx hb e_x dX0_kindAt_1 (by decide) (fun c_1 => ?_) (fun c_1 => ?_)
  · refine lv_iconst (v := (3 : Int32)) hx hb dX0_kindAt_22 (by decide) ?_
    exact z_ri (v := (3 : Int32)) hx hb hr hlocks (show (3 : Int32).toInt = kindZ d h from (by unfold kindZ rowZ; split <;> first | rfl | omega)) dX0_kindAt_23
  · refine lv_iload_n hx hb dX0_kindAt_4 rfl (lv_at hl 1 rfl) ?_
    refine lv_aload_n hx hb dX0_kindAt_5 rfl (lv_at hl 0 rfl) ?_
    refine z_get hx hb hts iwX0_kindAt_0 hown hK hG.1 rfl 12 (by decide) flX0_kindAt_23 rfl (v := .ref (g + 1)) rfl dX0_kindAt_6 ?_
    refine z_alen hx hb hK 0 hG.2.1 rfl (v := (120 : Int32)) rfl dX0_kindAt_9 ?_
    refine z_icmp_ge (tgt := 22) hx hb e_x kI_120 dX0_kindAt_10 (by decide) (fun c_2 => ?_) (fun c_2 => ?_)
    · refine lv_iconst (v := (3 : Int32)) hx hb dX0_kindAt_22 (by decide) ?_
      exact z_ri (v := (3 : Int32)) hx hb hr hlocks (show (3 : Int32).toInt = kindZ d h from (by unfold kindZ rowZ; split <;> first | rfl | omega)) dX0_kindAt_23
    · refine lv_aload_n hx hb dX0_kindAt_13 rfl (lv_at hl 0 rfl) ?_
      refine z_get hx hb hts iwX0_kindAt_0 hown hK hG.1 rfl 12 (by decide) flX0_kindAt_23 rfl (v := .ref (g + 1)) rfl dX0_kindAt_14 ?_
      refine lv_iload_n hx hb dX0_kindAt_17 rfl (lv_at hl 1 rfl) ?_
      refine z_iald hx hb hK 0 hG.2.1 rfl e_x (by omega) dX0_kindAt_18 ?_
      refine lv_goto (tgt := 23) hx hb dX0_kindAt_19 (by decide) ?_
      exact z_ri (v := d.2.1 h.toNat) hx hb hr hlocks (show (d.2.1 h.toNat).toInt = kindZ d h from (by unfold kindZ rowZ; split <;> first | rfl | omega)) dX0_kindAt_23

abbrev rmX0_correctionAt : Room := { frames := 0, cells := 0, slots := 0, locals := 0 }
theorem iwX0_correctionAt_0 : ∀ w ∈ wsX00, w ∈ wsX0_correctionAt := fun _ h => List.mem_cons_of_mem _ (List.mem_append_right _ h)
theorem flX0_correctionAt_36 : Cond.fieldLink RX0 36 "SiltedFloats$Gauge" "corrections" "[I" ∈ wsX0_correctionAt := by decide +kernel
theorem hyX0_correctionAt : yX0_correctionAt.cls = RX0 ∧ yX0_correctionAt.cls ≠ "java/lang/invoke/MethodHandle" ∧ yX0_correctionAt.cls ≠ "java/lang/invoke/VarHandle" ∧ (parseMethodDescriptor yX0_correctionAt.desc).map (fun d => d.parameters.length) = some 1 := by decide +kernel
set_option maxHeartbeats 4000000 in
set_option maxRecDepth 100000 in
theorem kX0_correctionAt (l : Launch) (G : xG) (g : Nat) (d : GD) (x : Int32) (h : Int) (e_x : x.toInt = h) : Met l yX0_correctionAt wsX0_correctionAt rmX0_correctionAt (va_Pc [.ref g, .int x] (zPre G (fun H => GA G H g d))) (zS (fun v => v.toInt = corrZ d h)) 0 0 zno := by
  refine z_ofW (cc := cX0_correctionAt) (maxL := 2) (ret := some .int) (by decide +kernel) rfl (Nat.le_of_ble_eq_true rfl) ?_
  intro p e s m below meth c hx hb hml hr hts hown hlocks hK hP ls hl
  have hG := hP
  have hown : s.vm.findClass RX0 = some m.cls := hown
  have hl : lv_has ls 2 [(0, .ref g), (1, .int x)] := hl
  refine lv_iload_n hx hb dX0_correctionAt_0 rfl (lv_at hl 1 rfl) ?_
  refine z_if_lt (tgt := 22) hx hb e_x dX0_correctionAt_1 (by decide) (fun c_1 => ?_) (fun c_1 => ?_)
  · refine lv_iconst (v := (0 : Int32)) hx hb dX0_correctionAt_22 (by decide) ?_
    exact z_ri (v := (0 : Int32)) hx hb hr hlocks (show (0 : Int32).toInt = corrZ d h from (by unfold corrZ rowZ; split <;> first | rfl | omega)) dX0_correctionAt_23
  · refine lv_iload_n hx hb dX0_correctionAt_4 rfl (lv_at hl 1 rfl) ?_
    refine lv_aload_n hx hb dX0_correctionAt_5 rfl (lv_at hl 0 rfl) ?_
    refine z_get hx hb hts iwX0_correctionAt_0 hown hK hG.1 rfl 14 (by decide) flX0_correctionAt_36 rfl (v := .ref (g + 3)) rfl dX0_correctionAt_6 ?_
    refine z_alen hx hb hK 0 hG.2.2.2 rfl (v := (120 : Int32)) rfl dX0_correctionAt_9 ?_
    refine z_icmp_ge (tgt := 22) hx hb e_x kI_120 dX0_correctionAt_10 (by decide) (fun c_2 => ?_) (fun c_2 => ?_)
    · refine lv_iconst (v := (0 : Int32)) hx hb dX0_correctionAt_22 (by decide) ?_
      exact z_ri (v := (0 : Int32)) hx hb hr hlocks (show (0 : Int32).toInt = corrZ d h from (by unfold corrZ rowZ; split <;> first | rfl | omega)) dX0_correctionAt_23
    · refine lv_aload_n hx hb dX0_correctionAt_13 rfl (lv_at hl 0 rfl) ?_
      refine z_get hx hb hts iwX0_correctionAt_0 hown hK hG.1 rfl 14 (by decide) flX0_correctionAt_36 rfl (v := .ref (g + 3)) rfl dX0_correctionAt_14 ?_
      refine lv_iload_n hx hb dX0_correctionAt_17 rfl (lv_at hl 1 rfl) ?_
      refine z_iald hx hb hK 0 hG.2.2.2 rfl e_x (by omega) dX0_correctionAt_18 ?_
      refine lv_goto (tgt := 23) hx hb dX0_correctionAt_19 (by decide) ?_
      exact z_ri (v := d.2.2.2 h.toNat) hx hb hr hlocks (show (d.2.2.2 h.toNat).toInt = corrZ d h from (by unfold corrZ rowZ; split <;> first | rfl | omega)) dX0_correctionAt_23

abbrev rmX0_readingAt : Room := { frames := 0, cells := 0, slots := 0, locals := 0 }
theorem iwX0_readingAt_0 : ∀ w ∈ wsX00, w ∈ wsX0_readingAt := fun _ h => List.mem_cons_of_mem _ (List.mem_append_right _ h)
theorem flX0_readingAt_33 : Cond.fieldLink RX0 33 "SiltedFloats$Gauge" "values" "[I" ∈ wsX0_readingAt := by decide +kernel
theorem hyX0_readingAt : yX0_readingAt.cls = RX0 ∧ yX0_readingAt.cls ≠ "java/lang/invoke/MethodHandle" ∧ yX0_readingAt.cls ≠ "java/lang/invoke/VarHandle" ∧ (parseMethodDescriptor yX0_readingAt.desc).map (fun d => d.parameters.length) = some 1 := by decide +kernel
set_option maxHeartbeats 4000000 in
set_option maxRecDepth 100000 in
theorem kX0_readingAt (l : Launch) (G : xG) (g : Nat) (d : GD) (x : Int32) (h : Int) (e_x : x.toInt = h) : Met l yX0_readingAt wsX0_readingAt rmX0_readingAt (va_Pc [.ref g, .int x] (zPre G (fun H => GA G H g d))) (zS (fun v => v.toInt = readZ d h)) 0 0 zno := by
  refine z_ofW (cc := cX0_readingAt) (maxL := 2) (ret := some .int) (by decide +kernel) rfl (Nat.le_of_ble_eq_true rfl) ?_
  intro p e s m below meth c hx hb hml hr hts hown hlocks hK hP ls hl
  have hG := hP
  have hown : s.vm.findClass RX0 = some m.cls := hown
  have hl : lv_has ls 2 [(0, .ref g), (1, .int x)] := hl
  refine lv_iload_n hx hb dX0_readingAt_0 rfl (lv_at hl 1 rfl) ?_
  refine z_if_lt (tgt := 22) hx hb e_x dX0_readingAt_1 (by decide) (fun c_1 => ?_) (fun c_1 => ?_)
  · refine lv_iconst (v := (0 : Int32)) hx hb dX0_readingAt_22 (by decide) ?_
    exact z_ri (v := (0 : Int32)) hx hb hr hlocks (show (0 : Int32).toInt = readZ d h from (by unfold readZ rowZ; split <;> first | rfl | omega)) dX0_readingAt_23
  · refine lv_iload_n hx hb dX0_readingAt_4 rfl (lv_at hl 1 rfl) ?_
    refine lv_aload_n hx hb dX0_readingAt_5 rfl (lv_at hl 0 rfl) ?_
    refine z_get hx hb hts iwX0_readingAt_0 hown hK hG.1 rfl 13 (by decide) flX0_readingAt_33 rfl (v := .ref (g + 2)) rfl dX0_readingAt_6 ?_
    refine z_alen hx hb hK 0 hG.2.2.1 rfl (v := (120 : Int32)) rfl dX0_readingAt_9 ?_
    refine z_icmp_ge (tgt := 22) hx hb e_x kI_120 dX0_readingAt_10 (by decide) (fun c_2 => ?_) (fun c_2 => ?_)
    · refine lv_iconst (v := (0 : Int32)) hx hb dX0_readingAt_22 (by decide) ?_
      exact z_ri (v := (0 : Int32)) hx hb hr hlocks (show (0 : Int32).toInt = readZ d h from (by unfold readZ rowZ; split <;> first | rfl | omega)) dX0_readingAt_23
    · refine lv_aload_n hx hb dX0_readingAt_13 rfl (lv_at hl 0 rfl) ?_
      refine z_get hx hb hts iwX0_readingAt_0 hown hK hG.1 rfl 13 (by decide) flX0_readingAt_33 rfl (v := .ref (g + 2)) rfl dX0_readingAt_14 ?_
      refine lv_iload_n hx hb dX0_readingAt_17 rfl (lv_at hl 1 rfl) ?_
      refine z_iald hx hb hK 0 hG.2.2.1 rfl e_x (by omega) dX0_readingAt_18 ?_
      refine lv_goto (tgt := 23) hx hb dX0_readingAt_19 (by decide) ?_
      exact z_ri (v := d.2.2.1 h.toNat) hx hb hr hlocks (show (d.2.2.1 h.toNat).toInt = readZ d h from (by unfold readZ rowZ; split <;> first | rfl | omega)) dX0_readingAt_23

abbrev rmX0_correctedAt : Room := { frames := 1, cells := 0, slots := 0, locals := 21 }
theorem hyX0_correctedAt : yX0_correctedAt.cls = RX0 ∧ yX0_correctedAt.cls ≠ "java/lang/invoke/MethodHandle" ∧ yX0_correctedAt.cls ≠ "java/lang/invoke/VarHandle" ∧ (parseMethodDescriptor yX0_correctedAt.desc).map (fun d => d.parameters.length) = some 1 := by decide +kernel
set_option maxHeartbeats 4000000 in
set_option maxRecDepth 100000 in
theorem kX0_correctedAt (l : Launch) (G : xG) (g : Nat) (d : GD) (x : Int32) (h : Int) (e_x : x.toInt = h) (hsm : smallG d) : Met l yX0_correctedAt wsX0_correctedAt rmX0_correctedAt (va_Pc [.ref g, .int x] (zPre G (fun H => GA G H g d))) (zS (fun v => v.toInt = cordZ d h)) 0 0 zno := by
  refine z_ofW (cc := cX0_correctedAt) (maxL := 2) (ret := some .int) (by decide +kernel) rfl (Nat.le_of_ble_eq_true rfl) ?_
  intro p e s m below meth c hx hb hml hr hts hown hlocks hK hP ls hl
  have hG := hP
  have hown : s.vm.findClass RX0 = some m.cls := hown
  have hl : lv_has ls 2 [(0, .ref g), (1, .int x)] := hl
  have hq1 := hsm.read h
  have hq2 := hsm.corr h
  refine lv_aload_n hx hb dX0_correctedAt_0 rfl (lv_at hl 0 rfl) ?_
  refine lv_iload_n hx hb dX0_correctedAt_1 rfl (lv_at hl 1 rfl) ?_
  refine z_cV (As := [.int x]) (rest := []) ⟨hx, hb, hml, hown, hts⟩ (kX0_readingAt l G g d x h e_x) (cwV 1 hts gX0_correctedAt_X0_readingAt rfl rfl rfl hyX0_readingAt ⟨Nat.le_of_ble_eq_true rfl, Nat.le_of_ble_eq_true rfl⟩) hK hG hG.1 rfl rfl hl.1 rfl (Nat.le_of_ble_eq_true rfl) dX0_correctedAt_2 ⟨Nat.zero_le _, Nat.zero_le _⟩ (fun z1 e1 => ?_)
  have e1 : z1.toInt = readZ d h := e1
  refine lv_aload_n hx hb dX0_correctedAt_5 rfl (lv_at hl 0 rfl) ?_
  refine lv_iload_n hx hb dX0_correctedAt_6 rfl (lv_at hl 1 rfl) ?_
  refine z_cV (As := [.int x]) (rest := [.int z1]) ⟨hx, hb, hml, hown, hts⟩ (kX0_correctionAt l G g d x h e_x) (cwV 1 hts gX0_correctedAt_X0_correctionAt rfl rfl rfl hyX0_correctionAt ⟨Nat.le_of_ble_eq_true rfl, Nat.le_of_ble_eq_true rfl⟩) hK hG hG.1 rfl rfl hl.1 rfl (Nat.le_of_ble_eq_true rfl) dX0_correctedAt_7 ⟨Nat.zero_le _, Nat.zero_le _⟩ (fun z2 e2 => ?_)
  have e2 : z2.toInt = corrZ d h := e2
  refine z_isub hx hb e1 e2 dX0_correctedAt_10 (by omega) (fun z3 e3 => ?_)
  exact z_ri (v := z3) hx hb hr hlocks (show z3.toInt = cordZ d h from (by unfold cordZ; omega)) dX0_correctedAt_11

abbrev rmX0_valueAt : Room := { frames := 2, cells := 0, slots := 0, locals := 42 }
theorem hyX0_valueAt : yX0_valueAt.cls = RX0 ∧ yX0_valueAt.cls ≠ "java/lang/invoke/MethodHandle" ∧ yX0_valueAt.cls ≠ "java/lang/invoke/VarHandle" ∧ (parseMethodDescriptor yX0_valueAt.desc).map (fun d => d.parameters.length) = some 1 := by decide +kernel
set_option maxHeartbeats 4000000 in
set_option maxRecDepth 100000 in
theorem kX0_valueAt (l : Launch) (G : xG) (g : Nat) (d : GD) (x : Int32) (h : Int) (e_x : x.toInt = h) (hsm : smallG d) : Met l yX0_valueAt wsX0_valueAt rmX0_valueAt (va_Pc [.ref g, .int x] (zPre G (fun H => GA G H g d))) (zS (fun v => v.toInt = valZ d h)) 0 0 zno := by
  refine z_ofW (cc := cX0_valueAt) (maxL := 2) (ret := some .int) (by decide +kernel) rfl (Nat.le_of_ble_eq_true rfl) ?_
  intro p e s m below meth c hx hb hml hr hts hown hlocks hK hP ls hl
  have hG := hP
  have hown : s.vm.findClass RX0 = some m.cls := hown
  have hl : lv_has ls 2 [(0, .ref g), (1, .int x)] := hl
  refine lv_aload_n hx hb dX0_valueAt_0 rfl (lv_at hl 0 rfl) ?_
  refine lv_iload_n hx hb dX0_valueAt_1 rfl (lv_at hl 1 rfl) ?_
  refine z_cV (As := [.int x]) (rest := []) ⟨hx, hb, hml, hown, hts⟩ (kX0_kindAt l G g d x h e_x) (cwV 1 hts gX0_valueAt_X0_kindAt rfl rfl rfl hyX0_kindAt ⟨Nat.le_of_ble_eq_true rfl, Nat.le_of_ble_eq_true rfl⟩) hK hG hG.1 rfl rfl hl.1 rfl (Nat.le_of_ble_eq_true rfl) dX0_valueAt_2 ⟨Nat.zero_le _, Nat.zero_le _⟩ (fun z1 e1 => ?_)
  have e1 : z1.toInt = kindZ d h := e1
  refine lv_iconst (v := (2 : Int32)) hx hb dX0_valueAt_5 (by decide) ?_
  refine z_icmp_ne (tgt := 17) hx hb e1 kI_2 dX0_valueAt_6 (by decide) (fun c_2 => ?_) (fun c_2 => ?_)
  · refine lv_aload_n hx hb dX0_valueAt_17 rfl (lv_at hl 0 rfl) ?_
    refine lv_iload_n hx hb dX0_valueAt_18 rfl (lv_at hl 1 rfl) ?_
    refine z_cV (As := [.int x]) (rest := []) ⟨hx, hb, hml, hown, hts⟩ (kX0_correctedAt l G g d x h e_x hsm) (cwV 1 hts gX0_valueAt_X0_correctedAt rfl rfl rfl hyX0_correctedAt ⟨Nat.le_of_ble_eq_true rfl, Nat.le_of_ble_eq_true rfl⟩) hK hG hG.1 rfl rfl hl.1 rfl (Nat.le_of_ble_eq_true rfl) dX0_valueAt_19 ⟨Nat.zero_le _, Nat.zero_le _⟩ (fun z3 e3 => ?_)
    have e3 : z3.toInt = cordZ d h := e3
    exact z_ri (v := z3) hx hb hr hlocks (show z3.toInt = valZ d h from (by unfold valZ; first | (rw [if_pos (by omega)]; omega) | (rw [if_neg (by omega)]; omega))) dX0_valueAt_22
  · refine lv_aload_n hx hb dX0_valueAt_9 rfl (lv_at hl 0 rfl) ?_
    refine lv_iload_n hx hb dX0_valueAt_10 rfl (lv_at hl 1 rfl) ?_
    refine z_cV (As := [.int x]) (rest := []) ⟨hx, hb, hml, hown, hts⟩ (kX0_readingAt l G g d x h e_x) (cwV 1 hts gX0_valueAt_X0_readingAt rfl rfl rfl hyX0_readingAt ⟨Nat.le_of_ble_eq_true rfl, Nat.le_of_ble_eq_true rfl⟩) hK hG hG.1 rfl rfl hl.1 rfl (Nat.le_of_ble_eq_true rfl) dX0_valueAt_11 ⟨Nat.zero_le _, Nat.zero_le _⟩ (fun z4 e4 => ?_)
    have e4 : z4.toInt = readZ d h := e4
    refine lv_goto (tgt := 22) hx hb dX0_valueAt_14 (by decide) ?_
    exact z_ri (v := z4) hx hb hr hlocks (show z4.toInt = valZ d h from (by unfold valZ; first | (rw [if_pos (by omega)]; omega) | (rw [if_neg (by omega)]; omega))) dX0_valueAt_22

abbrev rmX0_hasValue : Room := { frames := 1, cells := 0, slots := 0, locals := 21 }
theorem hyX0_hasValue : yX0_hasValue.cls = RX0 ∧ yX0_hasValue.cls ≠ "java/lang/invoke/MethodHandle" ∧ yX0_hasValue.cls ≠ "java/lang/invoke/VarHandle" ∧ (parseMethodDescriptor yX0_hasValue.desc).map (fun d => d.parameters.length) = some 1 := by decide +kernel
set_option maxHeartbeats 4000000 in
set_option maxRecDepth 100000 in
theorem kX0_hasValue (l : Launch) (G : xG) (g : Nat) (d : GD) (x : Int32) (h : Int) (e_x : x.toInt = h) : Met l yX0_hasValue wsX0_hasValue rmX0_hasValue (va_Pc [.ref g, .int x] (zPre G (fun H => GA G H g d))) (zS (fun v => isB v (hvP d h))) 0 0 zno := by
  refine z_ofW (cc := cX0_hasValue) (maxL := 3) (ret := some .boolean) (by decide +kernel) rfl (Nat.le_of_ble_eq_true rfl) ?_
  intro p e s m below meth c hx hb hml hr hts hown hlocks hK hP ls hl
  have hG := hP
  have hown : s.vm.findClass RX0 = some m.cls := hown
  have hl : lv_has ls 3 [(0, .ref g), (1, .int x)] := hl
  refine lv_aload_n hx hb dX0_hasValue_0 rfl (lv_at hl 0 rfl) ?_
  refine lv_iload_n hx hb dX0_hasValue_1 rfl (lv_at hl 1 rfl) ?_
  refine z_cV (As := [.int x]) (rest := []) ⟨hx, hb, hml, hown, hts⟩ (kX0_kindAt l G g d x h e_x) (cwV 1 hts gX0_hasValue_X0_kindAt rfl rfl rfl hyX0_kindAt ⟨Nat.le_of_ble_eq_true rfl, Nat.le_of_ble_eq_true rfl⟩) hK hG hG.1 rfl rfl hl.1 rfl (Nat.le_of_ble_eq_true rfl) dX0_hasValue_2 ⟨Nat.zero_le _, Nat.zero_le _⟩ (fun z1 e1 => ?_)
  have e1 : z1.toInt = kindZ d h := e1
  refine lv_istore_n hx hb dX0_hasValue_5 rfl hl (by decide) rfl (fun ls hl => ?_)
  have hl : lv_has ls 3 [(2, .int z1), (0, .ref g), (1, .int x)] := hl
  refine lv_iload_n hx hb dX0_hasValue_6 rfl (lv_at hl 0 rfl) ?_
  refine z_if_eq (tgt := 15) hx hb e1 dX0_hasValue_7 (by decide) (fun c_2 => ?_) (fun c_2 => ?_)
  · refine lv_iconst (v := (1 : Int32)) hx hb dX0_hasValue_15 (by decide) ?_
    refine lv_goto (tgt := 20) hx hb dX0_hasValue_16 (by decide) ?_
    exact z_rb (v := (1 : Int32)) hx hb hr hlocks rfl (isB.t rfl (by unfold hvP; omega)) dX0_hasValue_20
  · refine lv_iload_n hx hb dX0_hasValue_10 rfl (lv_at hl 0 rfl) ?_
    refine lv_iconst (v := (2 : Int32)) hx hb dX0_hasValue_11 (by decide) ?_
    refine z_icmp_ne (tgt := 19) hx hb e1 kI_2 dX0_hasValue_12 (by decide) (fun c_3 => ?_) (fun c_3 => ?_)
    · refine lv_iconst (v := (0 : Int32)) hx hb dX0_hasValue_19 (by decide) ?_
      exact z_rb (v := (0 : Int32)) hx hb hr hlocks rfl (isB.f rfl (by unfold hvP; omega)) dX0_hasValue_20
    · refine lv_iconst (v := (1 : Int32)) hx hb dX0_hasValue_15 (by decide) ?_
      refine lv_goto (tgt := 20) hx hb dX0_hasValue_16 (by decide) ?_
      exact z_rb (v := (1 : Int32)) hx hb hr hlocks rfl (isB.t rfl (by unfold hvP; omega)) dX0_hasValue_20

abbrev rmX0_hasReading : Room := { frames := 1, cells := 0, slots := 0, locals := 21 }
theorem hyX0_hasReading : yX0_hasReading.cls = RX0 ∧ yX0_hasReading.cls ≠ "java/lang/invoke/MethodHandle" ∧ yX0_hasReading.cls ≠ "java/lang/invoke/VarHandle" ∧ (parseMethodDescriptor yX0_hasReading.desc).map (fun d => d.parameters.length) = some 1 := by decide +kernel
set_option maxHeartbeats 4000000 in
set_option maxRecDepth 100000 in
theorem kX0_hasReading (l : Launch) (G : xG) (g : Nat) (d : GD) (x : Int32) (h : Int) (e_x : x.toInt = h) : Met l yX0_hasReading wsX0_hasReading rmX0_hasReading (va_Pc [.ref g, .int x] (zPre G (fun H => GA G H g d))) (zS (fun v => isB v (kindZ d h = 0))) 0 0 zno := by
  refine z_ofW (cc := cX0_hasReading) (maxL := 2) (ret := some .boolean) (by decide +kernel) rfl (Nat.le_of_ble_eq_true rfl) ?_
  intro p e s m below meth c hx hb hml hr hts hown hlocks hK hP ls hl
  have hG := hP
  have hown : s.vm.findClass RX0 = some m.cls := hown
  have hl : lv_has ls 2 [(0, .ref g), (1, .int x)] := hl
  refine lv_aload_n hx hb dX0_hasReading_0 rfl (lv_at hl 0 rfl) ?_
  refine lv_iload_n hx hb dX0_hasReading_1 rfl (lv_at hl 1 rfl) ?_
  refine z_cV (As := [.int x]) (rest := []) ⟨hx, hb, hml, hown, hts⟩ (kX0_kindAt l G g d x h e_x) (cwV 1 hts gX0_hasReading_X0_kindAt rfl rfl rfl hyX0_kindAt ⟨Nat.le_of_ble_eq_true rfl, Nat.le_of_ble_eq_true rfl⟩) hK hG hG.1 rfl rfl hl.1 rfl (Nat.le_of_ble_eq_true rfl) dX0_hasReading_2 ⟨Nat.zero_le _, Nat.zero_le _⟩ (fun z1 e1 => ?_)
  have e1 : z1.toInt = kindZ d h := e1
  refine z_if_ne (tgt := 12) hx hb e1 dX0_hasReading_5 (by decide) (fun c_2 => ?_) (fun c_2 => ?_)
  · refine lv_iconst (v := (0 : Int32)) hx hb dX0_hasReading_12 (by decide) ?_
    exact z_rb (v := (0 : Int32)) hx hb hr hlocks rfl (isB.f rfl (by omega)) dX0_hasReading_13
  · refine lv_iconst (v := (1 : Int32)) hx hb dX0_hasReading_8 (by decide) ?_
    refine lv_goto (tgt := 13) hx hb dX0_hasReading_9 (by decide) ?_
    exact z_rb (v := (1 : Int32)) hx hb hr hlocks rfl (isB.t rfl (by omega)) dX0_hasReading_13
