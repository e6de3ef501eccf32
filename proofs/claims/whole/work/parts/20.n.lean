abbrev rmX5_sea : Room := { frames := 2, cells := 0, slots := 0, locals := 47 }
theorem flX5_sea_c53 : Cond.constant RX5 53 (100000) ∈ wsX5_sea := by decide +kernel
theorem hyX5_sea : yX5_sea.cls = RX5 ∧ yX5_sea.cls ≠ "java/lang/invoke/MethodHandle" ∧ yX5_sea.cls ≠ "java/lang/invoke/VarHandle" ∧ (parseMethodDescriptor yX5_sea.desc).map (fun d => d.parameters.length) = some 1 := by decide +kernel
set_option maxHeartbeats 1000000 in
set_option maxRecDepth 100000 in
theorem kX5_sea (l : Launch) (G : xG) (o : Nat) (μ : MD) (x : Int32) (h : Int) (e_x : x.toInt = h) (σ : FD) (hRel : Rel σ μ) (hfd : fdOk σ) : Met l yX5_sea wsX5_sea rmX5_sea (va_Pc [.ref o, .int x] (zPre G (fun H => MO G H o μ))) (zS (fun v => v.toInt = a_sea σ h)) 0 0 zno := by
  refine z_ofW (cc := cX5_sea) (maxL := 2) (ret := some .int) (by decide +kernel) rfl (Nat.le_of_ble_eq_true rfl) ?_
  intro p e s m below meth c hx hb hml hr hts hown hlocks hK hP ls hl
  have hM := hP
  have hown : s.vm.findClass RX5 = some m.cls := hown
  have hl : lv_has ls 2 [(0, .ref o), (1, .int x)] := hl
  have hR := hRel.1
  have hok := hfd.1
  have hn0 := hR.1
  have hok1 := hok.1
  have hW := hR.w
  have hwo := hok.2.1
  refine lv_iload_n hx hb dX5_sea_0 rfl (lv_at hl 1 rfl) ?_
  refine lv_bipush (v := (-24 : Int32)) hx hb dX5_sea_1 (by decide) ?_
  refine lv_sipush (v := (200 : Int32)) hx hb dX5_sea_3 (by decide) ?_
  refine z_cS (As := [.int x, .int (-24 : Int32), .int (200 : Int32)]) (rest := []) ⟨hx, hb, hml, hown, hts⟩ (kX5_in l G x h e_x (-24 : Int32) (-24 : Int) kI_m24 (200 : Int32) (200 : Int) kI_200) (va_cwS 3 hts gX5_sea_X5_in rfl rfl rfl hyX5_in ⟨Nat.le_of_ble_eq_true rfl, Nat.le_of_ble_eq_true rfl⟩) hK trivial rfl hl.1 rfl (Nat.le_of_ble_eq_true rfl) dX5_sea_6 ⟨Nat.zero_le _, Nat.zero_le _⟩ (fun z1 e1 => ?_)
  have e1 : isB z1 ((-24 : Int) ≤ h ∧ h ≤ (200 : Int)) := e1
  refine z_ifb_eq (tgt := 23) hx hb e1 dX5_sea_9 (by decide) (fun c_2 => ?_) (fun c_2 => ?_)
  · refine lv_bipush (v := (-2 : Int32)) hx hb dX5_sea_23 (by decide) ?_
    exact z_ri (v := (-2 : Int32)) hx hb hr hlocks (show (-2 : Int32).toInt = a_sea σ h from (by unfold a_sea; (repeat' split) <;> first | rfl | omega | contradiction | assumption)) dX5_sea_25
  · have hwb := seaZ_b hwo h
    refine lv_aload_n hx hb dX5_sea_12 rfl (lv_at hl 0 rfl) ?_
    refine lv_iload_n hx hb dX5_sea_13 rfl (lv_at hl 1 rfl) ?_
    refine z_cV (As := [.int x]) (rest := []) ⟨hx, hb, hml, hown, hts⟩ (kX5_seaAt l G o μ x h e_x σ.1 (by first | assumption | omega) (by first | assumption | omega) (by first | assumption | omega)) (cwV 1 hts gX5_sea_X5_seaAt rfl rfl rfl hyX5_seaAt ⟨Nat.le_of_ble_eq_true rfl, Nat.le_of_ble_eq_true rfl⟩) hK hM hM.1 rfl rfl hl.1 rfl (Nat.le_of_ble_eq_true rfl) dX5_sea_14 ⟨Nat.zero_le _, Nat.zero_le _⟩ (fun z3 e3 => ?_)
    have e3 : z3.toInt = seaZ σ.1.2.1 h := e3
    refine lv_ldc (v := (100000 : Int32)) hx hb hown (hts _ flX5_sea_c53) dX5_sea_17 ?_
    refine z_iadd hx hb e3 kI_100000 dX5_sea_19 (by omega) (fun z4 e4 => ?_)
    refine lv_goto (tgt := 25) hx hb dX5_sea_20 (by decide) ?_
    exact z_ri (v := z4) hx hb hr hlocks (show z4.toInt = a_sea σ h from (by unfold a_sea; (repeat' split) <;> first | rfl | omega | contradiction | assumption)) dX5_sea_25

abbrev rmX5_outside : Room := { frames := 3, cells := 0, slots := 0, locals := 69 }
theorem flX5_outside_c53 : Cond.constant RX5 53 (100000) ∈ wsX5_outside := by decide +kernel
theorem hyX5_outside : yX5_outside.cls = RX5 ∧ yX5_outside.cls ≠ "java/lang/invoke/MethodHandle" ∧ yX5_outside.cls ≠ "java/lang/invoke/VarHandle" ∧ (parseMethodDescriptor yX5_outside.desc).map (fun d => d.parameters.length) = some 2 := by decide +kernel
set_option maxHeartbeats 1000000 in
set_option maxRecDepth 100000 in
theorem kX5_outside (l : Launch) (G : xG) (o : Nat) (μ : MD) (x : Int32) (t : Int) (e_x : x.toInt = t) (y : Int32) (h : Int) (e_y : y.toInt = h) (σ : FD) (hRel : Rel σ μ) (hfd : fdOk σ) : Met l yX5_outside wsX5_outside rmX5_outside (va_Pc [.ref o, .int x, .int y] (zPre G (fun H => MO G H o μ))) (zS (fun v => v.toInt = a_outside σ t h)) 0 0 zno := by
  refine z_ofW (cc := cX5_outside) (maxL := 3) (ret := some .int) (by decide +kernel) rfl (Nat.le_of_ble_eq_true rfl) ?_
  intro p e s m below meth c hx hb hml hr hts hown hlocks hK hP ls hl
  have hM := hP
  have hown : s.vm.findClass RX5 = some m.cls := hown
  have hl : lv_has ls 3 [(0, .ref o), (1, .int x), (2, .int y)] := hl
  have hR := hRel.1
  have hok := hfd.1
  have hn0 := hR.1
  have hok1 := hok.1
  have hW := hR.w
  have hwo := hok.2.1
  refine lv_iload_n hx hb dX5_outside_0 rfl (lv_at hl 1 rfl) ?_
  refine z_cS (As := [.int x]) (rest := []) ⟨hx, hb, hml, hown, hts⟩ (kX5_isStation l G x t e_x) (va_cwS 1 hts gX5_outside_X5_isStation rfl rfl rfl hyX5_isStation ⟨Nat.le_of_ble_eq_true rfl, Nat.le_of_ble_eq_true rfl⟩) hK trivial rfl hl.1 rfl (Nat.le_of_ble_eq_true rfl) dX5_outside_1 ⟨Nat.zero_le _, Nat.zero_le _⟩ (fun z1 e1 => ?_)
  have e1 : isB z1 (0 ≤ t ∧ t < 3) := e1
  refine z_ifb_ne (tgt := 9) hx hb e1 dX5_outside_4 (by decide) (fun c_2 => ?_) (fun c_2 => ?_)
  · have hgo := hok.2.2 t.toNat (by omega)
    have hgs := hgo.sta
    refine lv_iload_n hx hb dX5_outside_9 rfl (lv_at hl 2 rfl) ?_
    refine lv_iconst (v := (0 : Int32)) hx hb dX5_outside_10 (by decide) ?_
    refine lv_sipush (v := (200 : Int32)) hx hb dX5_outside_11 (by decide) ?_
    refine z_cS (As := [.int y, .int (0 : Int32), .int (200 : Int32)]) (rest := []) ⟨hx, hb, hml, hown, hts⟩ (kX5_in l G y h e_y (0 : Int32) (0 : Int) kI_0 (200 : Int32) (200 : Int) kI_200) (va_cwS 3 hts gX5_outside_X5_in rfl rfl rfl hyX5_in ⟨Nat.le_of_ble_eq_true rfl, Nat.le_of_ble_eq_true rfl⟩) hK trivial rfl hl.1 rfl (Nat.le_of_ble_eq_true rfl) dX5_outside_14 ⟨Nat.zero_le _, Nat.zero_le _⟩ (fun z3 e3 => ?_)
    have e3 : isB z3 ((0 : Int) ≤ h ∧ h ≤ (200 : Int)) := e3
    refine z_ifb_eq (tgt := 32) hx hb e3 dX5_outside_17 (by decide) (fun c_4 => ?_) (fun c_4 => ?_)
    · refine lv_bipush (v := (-2 : Int32)) hx hb dX5_outside_32 (by decide) ?_
      exact z_ri (v := (-2 : Int32)) hx hb hr hlocks (show (-2 : Int32).toInt = a_outside σ t h from (by unfold a_outside; (repeat' split) <;> first | rfl | omega | contradiction | assumption)) dX5_outside_34
    · have hwb := watZ_b hwo hgs h
      refine lv_aload_n hx hb dX5_outside_20 rfl (lv_at hl 0 rfl) ?_
      refine lv_iload_n hx hb dX5_outside_21 rfl (lv_at hl 1 rfl) ?_
      refine lv_iload_n hx hb dX5_outside_22 rfl (lv_at hl 2 rfl) ?_
      refine z_cV (As := [.int x, .int y]) (rest := []) ⟨hx, hb, hml, hown, hts⟩ (kX5_outsideAt l G o μ x t e_x y h e_y σ.1 (by first | assumption | omega) (by first | assumption | omega) (by first | assumption | omega) (by first | assumption | omega) (by first | assumption | omega)) (cwV 2 hts gX5_outside_X5_outsideAt rfl rfl rfl hyX5_outsideAt ⟨Nat.le_of_ble_eq_true rfl, Nat.le_of_ble_eq_true rfl⟩) hK hM hM.1 rfl rfl hl.1 rfl (Nat.le_of_ble_eq_true rfl) dX5_outside_23 ⟨Nat.zero_le _, Nat.zero_le _⟩ (fun z5 e5 => ?_)
      have e5 : z5.toInt = watZ σ.1.2.1 (σ.1.2.2 t.toNat) h := e5
      refine lv_ldc (v := (100000 : Int32)) hx hb hown (hts _ flX5_outside_c53) dX5_outside_26 ?_
      refine z_iadd hx hb e5 kI_100000 dX5_outside_28 (by omega) (fun z6 e6 => ?_)
      refine lv_goto (tgt := 34) hx hb dX5_outside_29 (by decide) ?_
      exact z_ri (v := z6) hx hb hr hlocks (show z6.toInt = a_outside σ t h from (by unfold a_outside; (repeat' split) <;> first | rfl | omega | contradiction | assumption)) dX5_outside_34
  · refine lv_iconst (v := (-1 : Int32)) hx hb dX5_outside_7 (by decide) ?_
    exact z_ri (v := (-1 : Int32)) hx hb hr hlocks (show (-1 : Int32).toInt = a_outside σ t h from (by unfold a_outside; (repeat' split) <;> first | rfl | omega | contradiction | assumption)) dX5_outside_8

abbrev rmX5_manyOn : Room := { frames := 1, cells := 0, slots := 0, locals := 21 }
theorem iwX5_manyOn_5 : ∀ w ∈ wsX50, w ∈ wsX5_manyOn := fun _ h => List.mem_cons_of_mem _ (List.mem_append_right _ h)
theorem flX5_manyOn_7 : Cond.fieldLink RX5 7 "SiltedFloatsModel" "s" "[I" ∈ wsX5_manyOn := by decide +kernel
theorem hyX5_manyOn : yX5_manyOn.cls = RX5 ∧ yX5_manyOn.cls ≠ "java/lang/invoke/MethodHandle" ∧ yX5_manyOn.cls ≠ "java/lang/invoke/VarHandle" ∧ (parseMethodDescriptor yX5_manyOn.desc).map (fun d => d.parameters.length) = some 0 := by decide +kernel
set_option maxHeartbeats 1000000 in
set_option maxRecDepth 100000 in
theorem kX5_manyOn (l : Launch) (G : xG) (o : Nat) (μ : MD) (τ : SD) (hR : Rs τ μ.2.1) (hok : stOk τ) : Met l yX5_manyOn wsX5_manyOn rmX5_manyOn (va_Pc [.ref o] (zPre G (fun H => MO G H o μ))) (zS (fun v => v.toInt = onN τ.2.2 3)) 0 0 zno := by
  refine z_ofW (cc := cX5_manyOn) (maxL := 1) (ret := some .int) (by decide +kernel) rfl (Nat.le_of_ble_eq_true rfl) ?_
  intro p e s m below meth c hx hb hml hr hts hown hlocks hK hP ls hl
  have hM := hP
  have hown : s.vm.findClass RX5 = some m.cls := hown
  have hl : lv_has ls 1 [(0, .ref o)] := hl
  have hs0 := hR.sc (t := 0) (by omega) 8 (by omega)
  have hs1 := hR.sc (t := 1) (by omega) 8 (by omega)
  have hs2 := hR.sc (t := 2) (by omega) 8 (by omega)
  have hb0 := (hok.2.2 0 (by omega)).2.2.1.2
  have hb1 := (hok.2.2 1 (by omega)).2.2.1.2
  have hb2 := (hok.2.2 2 (by omega)).2.2.1.2
  refine lv_aload_n hx hb dX5_manyOn_0 rfl (lv_at hl 0 rfl) ?_
  refine z_get hx hb hts iwX5_manyOn_5 hown hK hM.1 rfl 0 (by decide) flX5_manyOn_7 rfl (v := .ref (o + 1)) rfl dX5_manyOn_1 ?_
  refine lv_iconst (v := (0 : Int32)) hx hb dX5_manyOn_4 (by decide) ?_
  refine lv_bipush (v := (8 : Int32)) hx hb dX5_manyOn_5 (by decide) ?_
  refine z_cS (As := [.int (0 : Int32), .int (8 : Int32)]) (rest := [.ref (o + 1)]) ⟨hx, hb, hml, hown, hts⟩ (kX5_of l G (0 : Int32) (0 : Int) kI_0 (8 : Int32) (8 : Int) kI_8 (by first | assumption | omega)) (va_cwS 2 hts gX5_manyOn_X5_of rfl rfl rfl hyX5_of ⟨Nat.le_of_ble_eq_true rfl, Nat.le_of_ble_eq_true rfl⟩) hK trivial rfl hl.1 rfl (Nat.le_of_ble_eq_true rfl) dX5_manyOn_7 ⟨Nat.zero_le _, Nat.zero_le _⟩ (fun z1 e1 => ?_)
  have e1 : z1.toInt = 10 + 731 * (0 : Int) + (8 : Int) := e1
  refine z_iald (f := μ.2.1) hx hb hK 0 hM.2.1 rfl e1 (by omega) dX5_manyOn_10 ?_
  have hcl2 : (μ.2.1 (10 + 731 * (0 : Int) + (8 : Int)).toNat).toInt = ((τ.2.2 0).1 8).toInt := hs0
  refine lv_aload_n hx hb dX5_manyOn_11 rfl (lv_at hl 0 rfl) ?_
  refine z_get hx hb hts iwX5_manyOn_5 hown hK hM.1 rfl 0 (by decide) flX5_manyOn_7 rfl (v := .ref (o + 1)) rfl dX5_manyOn_12 ?_
  refine lv_iconst (v := (1 : Int32)) hx hb dX5_manyOn_15 (by decide) ?_
  refine lv_bipush (v := (8 : Int32)) hx hb dX5_manyOn_16 (by decide) ?_
  refine z_cS (As := [.int (1 : Int32), .int (8 : Int32)]) (rest := [.ref (o + 1), .int (μ.2.1 (10 + 731 * (0 : Int) + (8 : Int)).toNat)]) ⟨hx, hb, hml, hown, hts⟩ (kX5_of l G (1 : Int32) (1 : Int) kI_1 (8 : Int32) (8 : Int) kI_8 (by first | assumption | omega)) (va_cwS 2 hts gX5_manyOn_X5_of rfl rfl rfl hyX5_of ⟨Nat.le_of_ble_eq_true rfl, Nat.le_of_ble_eq_true rfl⟩) hK trivial rfl hl.1 rfl (Nat.le_of_ble_eq_true rfl) dX5_manyOn_18 ⟨Nat.zero_le _, Nat.zero_le _⟩ (fun z3 e3 => ?_)
  have e3 : z3.toInt = 10 + 731 * (1 : Int) + (8 : Int) := e3
  refine z_iald (f := μ.2.1) hx hb hK 0 hM.2.1 rfl e3 (by omega) dX5_manyOn_21 ?_
  have hcl4 : (μ.2.1 (10 + 731 * (1 : Int) + (8 : Int)).toNat).toInt = ((τ.2.2 1).1 8).toInt := hs1
  refine z_iadd hx hb hcl2 hcl4 dX5_manyOn_22 (by omega) (fun z5 e5 => ?_)
  refine lv_aload_n hx hb dX5_manyOn_23 rfl (lv_at hl 0 rfl) ?_
  refine z_get hx hb hts iwX5_manyOn_5 hown hK hM.1 rfl 0 (by decide) flX5_manyOn_7 rfl (v := .ref (o + 1)) rfl dX5_manyOn_24 ?_
  refine lv_iconst (v := (2 : Int32)) hx hb dX5_manyOn_27 (by decide) ?_
  refine lv_bipush (v := (8 : Int32)) hx hb dX5_manyOn_28 (by decide) ?_
  refine z_cS (As := [.int (2 : Int32), .int (8 : Int32)]) (rest := [.ref (o + 1), .int z5]) ⟨hx, hb, hml, hown, hts⟩ (kX5_of l G (2 : Int32) (2 : Int) kI_2 (8 : Int32) (8 : Int) kI_8 (by first | assumption | omega)) (va_cwS 2 hts gX5_manyOn_X5_of rfl rfl rfl hyX5_of ⟨Nat.le_of_ble_eq_true rfl, Nat.le_of_ble_eq_true rfl⟩) hK trivial rfl hl.1 rfl (Nat.le_of_ble_eq_true rfl) dX5_manyOn_30 ⟨Nat.zero_le _, Nat.zero_le _⟩ (fun z6 e6 => ?_)
  have e6 : z6.toInt = 10 + 731 * (2 : Int) + (8 : Int) := e6
  refine z_iald (f := μ.2.1) hx hb hK 0 hM.2.1 rfl e6 (by omega) dX5_manyOn_33 ?_
  have hcl7 : (μ.2.1 (10 + 731 * (2 : Int) + (8 : Int)).toNat).toInt = ((τ.2.2 2).1 8).toInt := hs2
  refine z_iadd hx hb e5 hcl7 dX5_manyOn_34 (by omega) (fun z8 e8 => ?_)
  exact z_ri (v := z8) hx hb hr hlocks (show z8.toInt = onN τ.2.2 3 from (by rw [e8]; show _ = ((0 + if ((τ.2.2 0).1 8).toInt = 0 then (0 : Int) else 1) + if ((τ.2.2 1).1 8).toInt = 0 then (0 : Int) else 1) + if ((τ.2.2 2).1 8).toInt = 0 then (0 : Int) else 1; (repeat' split) <;> omega)) dX5_manyOn_35

abbrev rmX5_station : Room := { frames := 4, cells := 0, slots := 0, locals := 89 }
theorem iwX5_station_5 : ∀ w ∈ wsX50, w ∈ wsX5_station := fun _ h => List.mem_cons_of_mem _ (List.mem_append_right _ h)
theorem flX5_station_7 : Cond.fieldLink RX5 7 "SiltedFloatsModel" "s" "[I" ∈ wsX5_station := by decide +kernel
theorem flX5_station_c53 : Cond.constant RX5 53 (100000) ∈ wsX5_station := by decide +kernel
theorem hyX5_station : yX5_station.cls = RX5 ∧ yX5_station.cls ≠ "java/lang/invoke/MethodHandle" ∧ yX5_station.cls ≠ "java/lang/invoke/VarHandle" ∧ (parseMethodDescriptor yX5_station.desc).map (fun d => d.parameters.length) = some 2 := by decide +kernel
set_option maxHeartbeats 1000000 in
set_option maxRecDepth 100000 in
theorem kX5_station (l : Launch) (G : xG) (o : Nat) (μ : MD) (x : Int32) (t : Int) (e_x : x.toInt = t) (y : Int32) (w : Int) (e_y : y.toInt = w) (σ : FD) (hRel : Rel σ μ) (hfd : fdOk σ) : Met l yX5_station wsX5_station rmX5_station (va_Pc [.ref o, .int x, .int y] (zPre G (fun H => MO G H o μ))) (zS (fun v => v.toInt = a_station σ t w)) 0 0 zno := by
  refine z_ofW (cc := cX5_station) (maxL := 3) (ret := some .int) (by decide +kernel) rfl (Nat.le_of_ble_eq_true rfl) ?_
  intro p e s m below meth c hx hb hml hr hts hown hlocks hK hP ls hl
  have hM := hP
  have hown : s.vm.findClass RX5 = some m.cls := hown
  have hl : lv_has ls 3 [(0, .ref o), (1, .int x), (2, .int y)] := hl
  have hR := hRel.1
  have hok := hfd.1
  have hn0 := hR.1
  have hok1 := hok.1
  have hW := hR.w
  have hwo := hok.2.1
  refine lv_iload_n hx hb dX5_station_0 rfl (lv_at hl 1 rfl) ?_
  refine z_cS (As := [.int x]) (rest := []) ⟨hx, hb, hml, hown, hts⟩ (kX5_isStation l G x t e_x) (va_cwS 1 hts gX5_station_X5_isStation rfl rfl rfl hyX5_isStation ⟨Nat.le_of_ble_eq_true rfl, Nat.le_of_ble_eq_true rfl⟩) hK trivial rfl hl.1 rfl (Nat.le_of_ble_eq_true rfl) dX5_station_1 ⟨Nat.zero_le _, Nat.zero_le _⟩ (fun z1 e1 => ?_)
  have e1 : isB z1 (0 ≤ t ∧ t < 3) := e1
  refine z_ifb_ne (tgt := 9) hx hb e1 dX5_station_4 (by decide) (fun c_2 => ?_) (fun c_2 => ?_)
  · have ht : 0 ≤ t ∧ t < 3 := c_2
    have hgo := hok.2.2 t.toNat (by omega)
    have hgg := hgo.2.1
    have hgs := hgo.1
    have hs0 := hR.sum0 hok ht
    have hs2 := hR.sum2 hok ht
    have hs6 : sumZ (fun h => cR μ.2.1 t (610 + h)) 0 ((μ.2.1 (0 : Int).toNat).toInt).toNat + (μ.2.1 (10 + 731 * t + (610 + (μ.2.1 (0 : Int).toNat).toInt)).toNat).toInt = ((σ.1.2.2 t.toNat).1 9).toInt := hR.sum6 hok ht
    have hg9 := hgo.2.2.2.1
    refine lv_iload_n hx hb dX5_station_9 rfl (lv_at hl 2 rfl) ?_
    rcases (show w < 0 ∨ 12 < w ∨ w = 0 ∨ w = 1 ∨ w = 2 ∨ w = 3 ∨ w = 4 ∨ w = 5 ∨ w = 6 ∨ w = 7 ∨ w = 8 ∨ w = 9 ∨ w = 10 ∨ w = 11 ∨ w = 12 from by omega) with c_3 | c_3 | c_3 | c_3 | c_3 | c_3 | c_3 | c_3 | c_3 | c_3 | c_3 | c_3 | c_3 | c_3 | c_3
    · refine lv_tableOut (tgt := 154) hx hb dX5_station_10 (by rw [e_y]; omega) (by decide) ?_
      refine lv_bipush (v := (-2 : Int32)) hx hb dX5_station_154 (by decide) ?_
      exact z_ri (v := (-2 : Int32)) hx hb hr hlocks (show (-2 : Int32).toInt = a_station σ t w from (by unfold a_station; rw [if_neg (by omega), stW_out (by omega)]; rfl)) dX5_station_156
    · refine lv_tableOut (tgt := 154) hx hb dX5_station_10 (by rw [e_y]; omega) (by decide) ?_
      refine lv_bipush (v := (-2 : Int32)) hx hb dX5_station_154 (by decide) ?_
      exact z_ri (v := (-2 : Int32)) hx hb hr hlocks (show (-2 : Int32).toInt = a_station σ t w from (by unfold a_station; rw [if_neg (by omega), stW_out (by omega)]; rfl)) dX5_station_156
    · refine lv_tableIn (off := 80) (tgt := 90) hx hb dX5_station_10 (by rw [e_y]; omega) (by rw [e_y]; omega) (by rw [e_y, c_3]; rfl) (by decide) ?_
      refine lv_aload_n hx hb dX5_station_90 rfl (lv_at hl 0 rfl) ?_
      refine z_get hx hb hts iwX5_station_5 hown hK hM.1 rfl 0 (by decide) flX5_station_7 rfl (v := .ref (o + 1)) rfl dX5_station_91 ?_
      refine lv_iload_n hx hb dX5_station_94 rfl (lv_at hl 1 rfl) ?_
      refine lv_iload_n hx hb dX5_station_95 rfl (lv_at hl 2 rfl) ?_
      refine z_cS (As := [.int x, .int y]) (rest := [.ref (o + 1)]) ⟨hx, hb, hml, hown, hts⟩ (kX5_of l G x t e_x y w e_y (by first | assumption | omega)) (va_cwS 2 hts gX5_station_X5_of rfl rfl rfl hyX5_of ⟨Nat.le_of_ble_eq_true rfl, Nat.le_of_ble_eq_true rfl⟩) hK trivial rfl hl.1 rfl (Nat.le_of_ble_eq_true rfl) dX5_station_96 ⟨Nat.zero_le _, Nat.zero_le _⟩ (fun z4 e4 => ?_)
      have e4 : z4.toInt = 10 + 731 * t + w := e4
      refine z_iald (f := μ.2.1) hx hb hK 0 hM.2.1 rfl e4 (by omega) dX5_station_99 ?_
      have hcl5 : (μ.2.1 (10 + 731 * t + w).toNat).toInt = ((σ.1.2.2 t.toNat).1 w.toNat).toInt := (hR.sc ht w (by omega))
      exact z_ri (v := μ.2.1 (10 + 731 * t + w).toNat) hx hb hr hlocks (show (μ.2.1 (10 + 731 * t + w).toNat).toInt = a_station σ t w from (by unfold a_station; rw [if_neg (by omega)]; have hw9 : w = 0 := (by omega); subst hw9; exact hcl5)) dX5_station_100
    · refine lv_tableIn (off := 80) (tgt := 90) hx hb dX5_station_10 (by rw [e_y]; omega) (by rw [e_y]; omega) (by rw [e_y, c_3]; rfl) (by decide) ?_
      refine lv_aload_n hx hb dX5_station_90 rfl (lv_at hl 0 rfl) ?_
      refine z_get hx hb hts iwX5_station_5 hown hK hM.1 rfl 0 (by decide) flX5_station_7 rfl (v := .ref (o + 1)) rfl dX5_station_91 ?_
      refine lv_iload_n hx hb dX5_station_94 rfl (lv_at hl 1 rfl) ?_
      refine lv_iload_n hx hb dX5_station_95 rfl (lv_at hl 2 rfl) ?_
      refine z_cS (As := [.int x, .int y]) (rest := [.ref (o + 1)]) ⟨hx, hb, hml, hown, hts⟩ (kX5_of l G x t e_x y w e_y (by first | assumption | omega)) (va_cwS 2 hts gX5_station_X5_of rfl rfl rfl hyX5_of ⟨Nat.le_of_ble_eq_true rfl, Nat.le_of_ble_eq_true rfl⟩) hK trivial rfl hl.1 rfl (Nat.le_of_ble_eq_true rfl) dX5_station_96 ⟨Nat.zero_le _, Nat.zero_le _⟩ (fun z6 e6 => ?_)
      have e6 : z6.toInt = 10 + 731 * t + w := e6
      refine z_iald (f := μ.2.1) hx hb hK 0 hM.2.1 rfl e6 (by omega) dX5_station_99 ?_
      have hcl7 : (μ.2.1 (10 + 731 * t + w).toNat).toInt = ((σ.1.2.2 t.toNat).1 w.toNat).toInt := (hR.sc ht w (by omega))
      exact z_ri (v := μ.2.1 (10 + 731 * t + w).toNat) hx hb hr hlocks (show (μ.2.1 (10 + 731 * t + w).toNat).toInt = a_station σ t w from (by unfold a_station; rw [if_neg (by omega)]; have hw9 : w = 1 := (by omega); subst hw9; exact hcl7)) dX5_station_100
    · refine lv_tableIn (off := 66) (tgt := 76) hx hb dX5_station_10 (by rw [e_y]; omega) (by rw [e_y]; omega) (by rw [e_y, c_3]; rfl) (by decide) ?_
      refine lv_aload_n hx hb dX5_station_76 rfl (lv_at hl 0 rfl) ?_
      refine z_get hx hb hts iwX5_station_5 hown hK hM.1 rfl 0 (by decide) flX5_station_7 rfl (v := .ref (o + 1)) rfl dX5_station_77 ?_
      refine lv_iload_n hx hb dX5_station_80 rfl (lv_at hl 1 rfl) ?_
      refine lv_iload_n hx hb dX5_station_81 rfl (lv_at hl 2 rfl) ?_
      refine z_cS (As := [.int x, .int y]) (rest := [.ref (o + 1)]) ⟨hx, hb, hml, hown, hts⟩ (kX5_of l G x t e_x y w e_y (by first | assumption | omega)) (va_cwS 2 hts gX5_station_X5_of rfl rfl rfl hyX5_of ⟨Nat.le_of_ble_eq_true rfl, Nat.le_of_ble_eq_true rfl⟩) hK trivial rfl hl.1 rfl (Nat.le_of_ble_eq_true rfl) dX5_station_82 ⟨Nat.zero_le _, Nat.zero_le _⟩ (fun z8 e8 => ?_)
      have e8 : z8.toInt = 10 + 731 * t + w := e8
      refine z_iald (f := μ.2.1) hx hb hK 0 hM.2.1 rfl e8 (by omega) dX5_station_85 ?_
      have hcl9 : (μ.2.1 (10 + 731 * t + w).toNat).toInt = ((σ.1.2.2 t.toNat).1 w.toNat).toInt := (hR.sc ht w (by omega))
      refine lv_ldc (v := (100000 : Int32)) hx hb hown (hts _ flX5_station_c53) dX5_station_86 ?_
      refine z_iadd hx hb hcl9 kI_100000 dX5_station_88 (by have := g23 hgo (show w = 2 ∨ w = 3 by omega); omega) (fun z10 e10 => ?_)
      exact z_ri (v := z10) hx hb hr hlocks (show z10.toInt = a_station σ t w from (by unfold a_station; rw [if_neg (by omega)]; have hw9 : w = 2 := (by omega); subst hw9; exact e10)) dX5_station_89
    · refine lv_tableIn (off := 66) (tgt := 76) hx hb dX5_station_10 (by rw [e_y]; omega) (by rw [e_y]; omega) (by rw [e_y, c_3]; rfl) (by decide) ?_
      refine lv_aload_n hx hb dX5_station_76 rfl (lv_at hl 0 rfl) ?_
      refine z_get hx hb hts iwX5_station_5 hown hK hM.1 rfl 0 (by decide) flX5_station_7 rfl (v := .ref (o + 1)) rfl dX5_station_77 ?_
      refine lv_iload_n hx hb dX5_station_80 rfl (lv_at hl 1 rfl) ?_
      refine lv_iload_n hx hb dX5_station_81 rfl (lv_at hl 2 rfl) ?_
      refine z_cS (As := [.int x, .int y]) (rest := [.ref (o + 1)]) ⟨hx, hb, hml, hown, hts⟩ (kX5_of l G x t e_x y w e_y (by first | assumption | omega)) (va_cwS 2 hts gX5_station_X5_of rfl rfl rfl hyX5_of ⟨Nat.le_of_ble_eq_true rfl, Nat.le_of_ble_eq_true rfl⟩) hK trivial rfl hl.1 rfl (Nat.le_of_ble_eq_true rfl) dX5_station_82 ⟨Nat.zero_le _, Nat.zero_le _⟩ (fun z11 e11 => ?_)
      have e11 : z11.toInt = 10 + 731 * t + w := e11
      refine z_iald (f := μ.2.1) hx hb hK 0 hM.2.1 rfl e11 (by omega) dX5_station_85 ?_
      have hcl12 : (μ.2.1 (10 + 731 * t + w).toNat).toInt = ((σ.1.2.2 t.toNat).1 w.toNat).toInt := (hR.sc ht w (by omega))
      refine lv_ldc (v := (100000 : Int32)) hx hb hown (hts _ flX5_station_c53) dX5_station_86 ?_
      refine z_iadd hx hb hcl12 kI_100000 dX5_station_88 (by have := g23 hgo (show w = 2 ∨ w = 3 by omega); omega) (fun z13 e13 => ?_)
      exact z_ri (v := z13) hx hb hr hlocks (show z13.toInt = a_station σ t w from (by unfold a_station; rw [if_neg (by omega)]; have hw9 : w = 3 := (by omega); subst hw9; exact e13)) dX5_station_89
    · refine lv_tableIn (off := 80) (tgt := 90) hx hb dX5_station_10 (by rw [e_y]; omega) (by rw [e_y]; omega) (by rw [e_y, c_3]; rfl) (by decide) ?_
      refine lv_aload_n hx hb dX5_station_90 rfl (lv_at hl 0 rfl) ?_
      refine z_get hx hb hts iwX5_station_5 hown hK hM.1 rfl 0 (by decide) flX5_station_7 rfl (v := .ref (o + 1)) rfl dX5_station_91 ?_
      refine lv_iload_n hx hb dX5_station_94 rfl (lv_at hl 1 rfl) ?_
      refine lv_iload_n hx hb dX5_station_95 rfl (lv_at hl 2 rfl) ?_
      refine z_cS (As := [.int x, .int y]) (rest := [.ref (o + 1)]) ⟨hx, hb, hml, hown, hts⟩ (kX5_of l G x t e_x y w e_y (by first | assumption | omega)) (va_cwS 2 hts gX5_station_X5_of rfl rfl rfl hyX5_of ⟨Nat.le_of_ble_eq_true rfl, Nat.le_of_ble_eq_true rfl⟩) hK trivial rfl hl.1 rfl (Nat.le_of_ble_eq_true rfl) dX5_station_96 ⟨Nat.zero_le _, Nat.zero_le _⟩ (fun z14 e14 => ?_)
      have e14 : z14.toInt = 10 + 731 * t + w := e14
      refine z_iald (f := μ.2.1) hx hb hK 0 hM.2.1 rfl e14 (by omega) dX5_station_99 ?_
      have hcl15 : (μ.2.1 (10 + 731 * t + w).toNat).toInt = ((σ.1.2.2 t.toNat).1 w.toNat).toInt := (hR.sc ht w (by omega))
      exact z_ri (v := μ.2.1 (10 + 731 * t + w).toNat) hx hb hr hlocks (show (μ.2.1 (10 + 731 * t + w).toNat).toInt = a_station σ t w from (by unfold a_station; rw [if_neg (by omega)]; have hw9 : w = 4 := (by omega); subst hw9; exact hcl15)) dX5_station_100
    · refine lv_tableIn (off := 80) (tgt := 90) hx hb dX5_station_10 (by rw [e_y]; omega) (by rw [e_y]; omega) (by rw [e_y, c_3]; rfl) (by decide) ?_
      refine lv_aload_n hx hb dX5_station_90 rfl (lv_at hl 0 rfl) ?_
      refine z_get hx hb hts iwX5_station_5 hown hK hM.1 rfl 0 (by decide) flX5_station_7 rfl (v := .ref (o + 1)) rfl dX5_station_91 ?_
      refine lv_iload_n hx hb dX5_station_94 rfl (lv_at hl 1 rfl) ?_
      refine lv_iload_n hx hb dX5_station_95 rfl (lv_at hl 2 rfl) ?_
      refine z_cS (As := [.int x, .int y]) (rest := [.ref (o + 1)]) ⟨hx, hb, hml, hown, hts⟩ (kX5_of l G x t e_x y w e_y (by first | assumption | omega)) (va_cwS 2 hts gX5_station_X5_of rfl rfl rfl hyX5_of ⟨Nat.le_of_ble_eq_true rfl, Nat.le_of_ble_eq_true rfl⟩) hK trivial rfl hl.1 rfl (Nat.le_of_ble_eq_true rfl) dX5_station_96 ⟨Nat.zero_le _, Nat.zero_le _⟩ (fun z16 e16 => ?_)
      have e16 : z16.toInt = 10 + 731 * t + w := e16
      refine z_iald (f := μ.2.1) hx hb hK 0 hM.2.1 rfl e16 (by omega) dX5_station_99 ?_
      have hcl17 : (μ.2.1 (10 + 731 * t + w).toNat).toInt = ((σ.1.2.2 t.toNat).1 w.toNat).toInt := (hR.sc ht w (by omega))
      exact z_ri (v := μ.2.1 (10 + 731 * t + w).toNat) hx hb hr hlocks (show (μ.2.1 (10 + 731 * t + w).toNat).toInt = a_station σ t w from (by unfold a_station; rw [if_neg (by omega)]; have hw9 : w = 5 := (by omega); subst hw9; exact hcl17)) dX5_station_100
    · refine lv_tableIn (off := 80) (tgt := 90) hx hb dX5_station_10 (by rw [e_y]; omega) (by rw [e_y]; omega) (by rw [e_y, c_3]; rfl) (by decide) ?_
      refine lv_aload_n hx hb dX5_station_90 rfl (lv_at hl 0 rfl) ?_
      refine z_get hx hb hts iwX5_station_5 hown hK hM.1 rfl 0 (by decide) flX5_station_7 rfl (v := .ref (o + 1)) rfl dX5_station_91 ?_
      refine lv_iload_n hx hb dX5_station_94 rfl (lv_at hl 1 rfl) ?_
      refine lv_iload_n hx hb dX5_station_95 rfl (lv_at hl 2 rfl) ?_
      refine z_cS (As := [.int x, .int y]) (rest := [.ref (o + 1)]) ⟨hx, hb, hml, hown, hts⟩ (kX5_of l G x t e_x y w e_y (by first | assumption | omega)) (va_cwS 2 hts gX5_station_X5_of rfl rfl rfl hyX5_of ⟨Nat.le_of_ble_eq_true rfl, Nat.le_of_ble_eq_true rfl⟩) hK trivial rfl hl.1 rfl (Nat.le_of_ble_eq_true rfl) dX5_station_96 ⟨Nat.zero_le _, Nat.zero_le _⟩ (fun z18 e18 => ?_)
      have e18 : z18.toInt = 10 + 731 * t + w := e18
      refine z_iald (f := μ.2.1) hx hb hK 0 hM.2.1 rfl e18 (by omega) dX5_station_99 ?_
      have hcl19 : (μ.2.1 (10 + 731 * t + w).toNat).toInt = ((σ.1.2.2 t.toNat).1 w.toNat).toInt := (hR.sc ht w (by omega))
      exact z_ri (v := μ.2.1 (10 + 731 * t + w).toNat) hx hb hr hlocks (show (μ.2.1 (10 + 731 * t + w).toNat).toInt = a_station σ t w from (by unfold a_station; rw [if_neg (by omega)]; have hw9 : w = 6 := (by omega); subst hw9; exact hcl19)) dX5_station_100
    · refine lv_tableIn (off := 80) (tgt := 90) hx hb dX5_station_10 (by rw [e_y]; omega) (by rw [e_y]; omega) (by rw [e_y, c_3]; rfl) (by decide) ?_
      refine lv_aload_n hx hb dX5_station_90 rfl (lv_at hl 0 rfl) ?_
      refine z_get hx hb hts iwX5_station_5 hown hK hM.1 rfl 0 (by decide) flX5_station_7 rfl (v := .ref (o + 1)) rfl dX5_station_91 ?_
      refine lv_iload_n hx hb dX5_station_94 rfl (lv_at hl 1 rfl) ?_
      refine lv_iload_n hx hb dX5_station_95 rfl (lv_at hl 2 rfl) ?_
      refine z_cS (As := [.int x, .int y]) (rest := [.ref (o + 1)]) ⟨hx, hb, hml, hown, hts⟩ (kX5_of l G x t e_x y w e_y (by first | assumption | omega)) (va_cwS 2 hts gX5_station_X5_of rfl rfl rfl hyX5_of ⟨Nat.le_of_ble_eq_true rfl, Nat.le_of_ble_eq_true rfl⟩) hK trivial rfl hl.1 rfl (Nat.le_of_ble_eq_true rfl) dX5_station_96 ⟨Nat.zero_le _, Nat.zero_le _⟩ (fun z20 e20 => ?_)
      have e20 : z20.toInt = 10 + 731 * t + w := e20
      refine z_iald (f := μ.2.1) hx hb hK 0 hM.2.1 rfl e20 (by omega) dX5_station_99 ?_
      have hcl21 : (μ.2.1 (10 + 731 * t + w).toNat).toInt = ((σ.1.2.2 t.toNat).1 w.toNat).toInt := (hR.sc ht w (by omega))
      exact z_ri (v := μ.2.1 (10 + 731 * t + w).toNat) hx hb hr hlocks (show (μ.2.1 (10 + 731 * t + w).toNat).toInt = a_station σ t w from (by unfold a_station; rw [if_neg (by omega)]; have hw9 : w = 7 := (by omega); subst hw9; exact hcl21)) dX5_station_100
    · refine lv_tableIn (off := 80) (tgt := 90) hx hb dX5_station_10 (by rw [e_y]; omega) (by rw [e_y]; omega) (by rw [e_y, c_3]; rfl) (by decide) ?_
      refine lv_aload_n hx hb dX5_station_90 rfl (lv_at hl 0 rfl) ?_
      refine z_get hx hb hts iwX5_station_5 hown hK hM.1 rfl 0 (by decide) flX5_station_7 rfl (v := .ref (o + 1)) rfl dX5_station_91 ?_
      refine lv_iload_n hx hb dX5_station_94 rfl (lv_at hl 1 rfl) ?_
      refine lv_iload_n hx hb dX5_station_95 rfl (lv_at hl 2 rfl) ?_
      refine z_cS (As := [.int x, .int y]) (rest := [.ref (o + 1)]) ⟨hx, hb, hml, hown, hts⟩ (kX5_of l G x t e_x y w e_y (by first | assumption | omega)) (va_cwS 2 hts gX5_station_X5_of rfl rfl rfl hyX5_of ⟨Nat.le_of_ble_eq_true rfl, Nat.le_of_ble_eq_true rfl⟩) hK trivial rfl hl.1 rfl (Nat.le_of_ble_eq_true rfl) dX5_station_96 ⟨Nat.zero_le _, Nat.zero_le _⟩ (fun z22 e22 => ?_)
      have e22 : z22.toInt = 10 + 731 * t + w := e22
      refine z_iald (f := μ.2.1) hx hb hK 0 hM.2.1 rfl e22 (by omega) dX5_station_99 ?_
      have hcl23 : (μ.2.1 (10 + 731 * t + w).toNat).toInt = ((σ.1.2.2 t.toNat).1 w.toNat).toInt := (hR.sc ht w (by omega))
      exact z_ri (v := μ.2.1 (10 + 731 * t + w).toNat) hx hb hr hlocks (show (μ.2.1 (10 + 731 * t + w).toNat).toInt = a_station σ t w from (by unfold a_station; rw [if_neg (by omega)]; have hw9 : w = 8 := (by omega); subst hw9; rw [hcl23]; show ((σ.1.2.2 t.toNat).1 8).toInt = if ((σ.1.2.2 t.toNat).1 8).toInt = 0 then (0 : Int) else 1; have := hgo.2.2.1.2; split <;> omega)) dX5_station_100
    · refine lv_tableIn (off := 91) (tgt := 101) hx hb dX5_station_10 (by rw [e_y]; omega) (by rw [e_y]; omega) (by rw [e_y, c_3]; rfl) (by decide) ?_
      refine lv_aload_n hx hb dX5_station_101 rfl (lv_at hl 0 rfl) ?_
      refine lv_iload_n hx hb dX5_station_102 rfl (lv_at hl 1 rfl) ?_
      refine lv_sipush (v := (129 : Int32)) hx hb dX5_station_103 (by decide) ?_
      refine z_cV (As := [.int x, .int (129 : Int32)]) (rest := []) ⟨hx, hb, hml, hown, hts⟩ (kX5_sum l G o μ x t e_x (129 : Int32) (129 : Int) kI_129 (by first | assumption | omega) (by first | assumption | omega) (by omega) (hR.b0 ht)) (cwV 2 hts gX5_station_X5_sum rfl rfl rfl hyX5_sum ⟨Nat.le_of_ble_eq_true rfl, Nat.le_of_ble_eq_true rfl⟩) hK hM hM.1 rfl rfl hl.1 rfl (Nat.le_of_ble_eq_true rfl) dX5_station_106 ⟨Nat.zero_le _, Nat.zero_le _⟩ (fun z24 e24 => ?_)
      have e24 : z24.toInt = sumZ (fun h => cR μ.2.1 t ((129 : Int) + h)) 0 ((μ.2.1 (0 : Int).toNat).toInt).toNat := e24
      have e24 : z24.toInt = cntK (σ.1.2.2 t.toNat) 0 := by rw [e24]; exact hs0
      exact z_ri (v := z24) hx hb hr hlocks (show z24.toInt = a_station σ t w from (by unfold a_station; rw [if_neg (by omega)]; have hw9 : w = 9 := (by omega); subst hw9; exact e24)) dX5_station_109
    · refine lv_tableIn (off := 100) (tgt := 110) hx hb dX5_station_10 (by rw [e_y]; omega) (by rw [e_y]; omega) (by rw [e_y, c_3]; rfl) (by decide) ?_
      refine lv_aload_n hx hb dX5_station_110 rfl (lv_at hl 0 rfl) ?_
      refine lv_iload_n hx hb dX5_station_111 rfl (lv_at hl 1 rfl) ?_
      refine z_cV (As := [.int x]) (rest := []) ⟨hx, hb, hml, hown, hts⟩ (kX5_gapsOf l G o μ x t e_x σ.1 (by first | assumption | omega) (by first | assumption | omega) (by first | assumption | omega)) (cwV 1 hts gX5_station_X5_gapsOf rfl rfl rfl hyX5_gapsOf ⟨Nat.le_of_ble_eq_true rfl, Nat.le_of_ble_eq_true rfl⟩) hK hM hM.1 rfl rfl hl.1 rfl (Nat.le_of_ble_eq_true rfl) dX5_station_112 ⟨Nat.zero_le _, Nat.zero_le _⟩ (fun z25 e25 => ?_)
      have e25 : z25.toInt = gapsZ (σ.1.2.2 t.toNat) := e25
      exact z_ri (v := z25) hx hb hr hlocks (show z25.toInt = a_station σ t w from (by unfold a_station; rw [if_neg (by omega)]; have hw9 : w = 10 := (by omega); subst hw9; exact e25)) dX5_station_115
    · refine lv_tableIn (off := 106) (tgt := 116) hx hb dX5_station_10 (by rw [e_y]; omega) (by rw [e_y]; omega) (by rw [e_y, c_3]; rfl) (by decide) ?_
      refine lv_aload_n hx hb dX5_station_116 rfl (lv_at hl 0 rfl) ?_
      refine lv_iload_n hx hb dX5_station_117 rfl (lv_at hl 1 rfl) ?_
      refine lv_sipush (v := (369 : Int32)) hx hb dX5_station_118 (by decide) ?_
      refine z_cV (As := [.int x, .int (369 : Int32)]) (rest := []) ⟨hx, hb, hml, hown, hts⟩ (kX5_sum l G o μ x t e_x (369 : Int32) (369 : Int) kI_369 (by first | assumption | omega) (by first | assumption | omega) (by omega) (hR.b2 ht)) (cwV 2 hts gX5_station_X5_sum rfl rfl rfl hyX5_sum ⟨Nat.le_of_ble_eq_true rfl, Nat.le_of_ble_eq_true rfl⟩) hK hM hM.1 rfl rfl hl.1 rfl (Nat.le_of_ble_eq_true rfl) dX5_station_121 ⟨Nat.zero_le _, Nat.zero_le _⟩ (fun z26 e26 => ?_)
      have e26 : z26.toInt = sumZ (fun h => cR μ.2.1 t ((369 : Int) + h)) 0 ((μ.2.1 (0 : Int).toNat).toInt).toNat := e26
      have e26 : z26.toInt = cntK (σ.1.2.2 t.toNat) 2 := by rw [e26]; exact hs2
      exact z_ri (v := z26) hx hb hr hlocks (show z26.toInt = a_station σ t w from (by unfold a_station; rw [if_neg (by omega)]; have hw9 : w = 11 := (by omega); subst hw9; exact e26)) dX5_station_124
    · refine lv_tableIn (off := 115) (tgt := 125) hx hb dX5_station_10 (by rw [e_y]; omega) (by rw [e_y]; omega) (by rw [e_y, c_3]; rfl) (by decide) ?_
      refine lv_aload_n hx hb dX5_station_125 rfl (lv_at hl 0 rfl) ?_
      refine lv_iload_n hx hb dX5_station_126 rfl (lv_at hl 1 rfl) ?_
      refine lv_sipush (v := (610 : Int32)) hx hb dX5_station_127 (by decide) ?_
      refine z_cV (As := [.int x, .int (610 : Int32)]) (rest := []) ⟨hx, hb, hml, hown, hts⟩ (kX5_sum l G o μ x t e_x (610 : Int32) (610 : Int) kI_610 (by first | assumption | omega) (by first | assumption | omega) (by omega) (hR.b6 ht)) (cwV 2 hts gX5_station_X5_sum rfl rfl rfl hyX5_sum ⟨Nat.le_of_ble_eq_true rfl, Nat.le_of_ble_eq_true rfl⟩) hK hM hM.1 rfl rfl hl.1 rfl (Nat.le_of_ble_eq_true rfl) dX5_station_130 ⟨Nat.zero_le _, Nat.zero_le _⟩ (fun z27 e27 => ?_)
      have e27 : z27.toInt = sumZ (fun h => cR μ.2.1 t ((610 : Int) + h)) 0 ((μ.2.1 (0 : Int).toNat).toInt).toNat := e27
      refine lv_aload_n hx hb dX5_station_133 rfl (lv_at hl 0 rfl) ?_
      refine z_get hx hb hts iwX5_station_5 hown hK hM.1 rfl 0 (by decide) flX5_station_7 rfl (v := .ref (o + 1)) rfl dX5_station_134 ?_
      refine lv_iload_n hx hb dX5_station_137 rfl (lv_at hl 1 rfl) ?_
      refine lv_sipush (v := (610 : Int32)) hx hb dX5_station_138 (by decide) ?_
      refine lv_aload_n hx hb dX5_station_141 rfl (lv_at hl 0 rfl) ?_
      refine z_get hx hb hts iwX5_station_5 hown hK hM.1 rfl 0 (by decide) flX5_station_7 rfl (v := .ref (o + 1)) rfl dX5_station_142 ?_
      refine lv_iconst (v := (0 : Int32)) hx hb dX5_station_145 (by decide) ?_
      refine z_iald (f := μ.2.1) hx hb hK 0 hM.2.1 rfl kI_0 (by omega) dX5_station_146 ?_
      refine z_iadd hx hb kI_610 rfl dX5_station_147 (by omega) (fun z28 e28 => ?_)
      refine z_cS (As := [.int x, .int z28]) (rest := [.ref (o + 1), .int z27]) ⟨hx, hb, hml, hown, hts⟩ (kX5_of l G x t e_x z28 ((610 : Int) + ((μ.2.1 (0 : Int).toNat).toInt)) e28 (by first | assumption | omega)) (va_cwS 2 hts gX5_station_X5_of rfl rfl rfl hyX5_of ⟨Nat.le_of_ble_eq_true rfl, Nat.le_of_ble_eq_true rfl⟩) hK trivial rfl hl.1 rfl (Nat.le_of_ble_eq_true rfl) dX5_station_148 ⟨Nat.zero_le _, Nat.zero_le _⟩ (fun z29 e29 => ?_)
      have e29 : z29.toInt = 10 + 731 * t + ((610 : Int) + ((μ.2.1 (0 : Int).toNat).toInt)) := e29
      refine z_iald (f := μ.2.1) hx hb hK 0 hM.2.1 rfl e29 (by omega) dX5_station_151 ?_
      refine z_iadd hx hb e27 rfl dX5_station_152 (by omega) (fun z30 e30 => ?_)
      exact z_ri (v := z30) hx hb hr hlocks (show z30.toInt = a_station σ t w from (by unfold a_station; rw [if_neg (by omega)]; have hw9 : w = 12 := (by omega); subst hw9; rw [e30]; exact hs6)) dX5_station_153
  · refine lv_iconst (v := (-1 : Int32)) hx hb dX5_station_7 (by decide) ?_
    exact z_ri (v := (-1 : Int32)) hx hb hr hlocks (show (-1 : Int32).toInt = a_station σ t w from (by unfold a_station; rw [if_pos (by omega)]; rfl)) dX5_station_8

abbrev rmX5_hour : Room := { frames := 3, cells := 0, slots := 0, locals := 68 }
theorem iwX5_hour_5 : ∀ w ∈ wsX50, w ∈ wsX5_hour := fun _ h => List.mem_cons_of_mem _ (List.mem_append_right _ h)
theorem flX5_hour_7 : Cond.fieldLink RX5 7 "SiltedFloatsModel" "s" "[I" ∈ wsX5_hour := by decide +kernel
theorem flX5_hour_c53 : Cond.constant RX5 53 (100000) ∈ wsX5_hour := by decide +kernel
theorem hyX5_hour : yX5_hour.cls = RX5 ∧ yX5_hour.cls ≠ "java/lang/invoke/MethodHandle" ∧ yX5_hour.cls ≠ "java/lang/invoke/VarHandle" ∧ (parseMethodDescriptor yX5_hour.desc).map (fun d => d.parameters.length) = some 3 := by decide +kernel
set_option maxHeartbeats 1000000 in
set_option maxRecDepth 100000 in
theorem kX5_hour (l : Launch) (G : xG) (o : Nat) (μ : MD) (x : Int32) (t : Int) (e_x : x.toInt = t) (y : Int32) (h : Int) (e_y : y.toInt = h) (xw : Int32) (w : Int) (e_xw : xw.toInt = w) (σ : FD) (hRel : Rel σ μ) (hfd : fdOk σ) : Met l yX5_hour wsX5_hour rmX5_hour (va_Pc [.ref o, .int x, .int y, .int xw] (zPre G (fun H => MO G H o μ))) (zS (fun v => v.toInt = a_hour σ t h w)) 0 0 zno := by
  refine z_ofW (cc := cX5_hour) (maxL := 6) (ret := some .int) (by decide +kernel) rfl (Nat.le_of_ble_eq_true rfl) ?_
  intro p e s m below meth c hx hb hml hr hts hown hlocks hK hP ls hl
  have hM := hP
  have hown : s.vm.findClass RX5 = some m.cls := hown
  have hl : lv_has ls 6 [(0, .ref o), (1, .int x), (2, .int y), (3, .int xw)] := hl
  have hR := hRel.1
  have hok := hfd.1
  have hn0 := hR.1
  have hok1 := hok.1
  have hW := hR.w
  have hwo := hok.2.1
  refine lv_iload_n hx hb dX5_hour_0 rfl (lv_at hl 1 rfl) ?_
  refine z_cS (As := [.int x]) (rest := []) ⟨hx, hb, hml, hown, hts⟩ (kX5_isStation l G x t e_x) (va_cwS 1 hts gX5_hour_X5_isStation rfl rfl rfl hyX5_isStation ⟨Nat.le_of_ble_eq_true rfl, Nat.le_of_ble_eq_true rfl⟩) hK trivial rfl hl.1 rfl (Nat.le_of_ble_eq_true rfl) dX5_hour_1 ⟨Nat.zero_le _, Nat.zero_le _⟩ (fun z1 e1 => ?_)
  have e1 : isB z1 (0 ≤ t ∧ t < 3) := e1
  refine z_ifb_ne (tgt := 9) hx hb e1 dX5_hour_4 (by decide) (fun c_2 => ?_) (fun c_2 => ?_)
  · have ht : 0 ≤ t ∧ t < 3 := c_2
    have hgo := hok.2.2 t.toNat (by omega)
    have hsm := hgo.small
    have hq1 := hsm.read h
    have hq2 := hsm.cord h
    have hq3 := corrB hgo h
    have hq4 := hsm.val h
    refine lv_iload_n hx hb dX5_hour_9 rfl (lv_at hl 2 rfl) ?_
    refine z_if_lt (tgt := 22) hx hb e_y dX5_hour_10 (by decide) (fun c_3 => ?_) (fun c_3 => ?_)
    · refine lv_bipush (v := (-2 : Int32)) hx hb dX5_hour_22 (by decide) ?_
      exact z_ri (v := (-2 : Int32)) hx hb hr hlocks (show (-2 : Int32).toInt = a_hour σ t h w from (by unfold a_hour; (repeat' split) <;> first | rfl | omega | contradiction | assumption)) dX5_hour_24
    · refine lv_iload_n hx hb dX5_hour_13 rfl (lv_at hl 3 rfl) ?_
      refine lv_iconst (v := (0 : Int32)) hx hb dX5_hour_14 (by decide) ?_
      refine lv_iconst (v := (4 : Int32)) hx hb dX5_hour_15 (by decide) ?_
      refine z_cS (As := [.int xw, .int (0 : Int32), .int (4 : Int32)]) (rest := []) ⟨hx, hb, hml, hown, hts⟩ (kX5_in l G xw w e_xw (0 : Int32) (0 : Int) kI_0 (4 : Int32) (4 : Int) kI_4) (va_cwS 3 hts gX5_hour_X5_in rfl rfl rfl hyX5_in ⟨Nat.le_of_ble_eq_true rfl, Nat.le_of_ble_eq_true rfl⟩) hK trivial rfl hl.1 rfl (Nat.le_of_ble_eq_true rfl) dX5_hour_16 ⟨Nat.zero_le _, Nat.zero_le _⟩ (fun z4 e4 => ?_)
      have e4 : isB z4 ((0 : Int) ≤ w ∧ w ≤ (4 : Int)) := e4
      refine z_ifb_ne (tgt := 25) hx hb e4 dX5_hour_19 (by decide) (fun c_5 => ?_) (fun c_5 => ?_)
      · refine lv_iload_n hx hb dX5_hour_25 rfl (lv_at hl 2 rfl) ?_
        refine lv_aload_n hx hb dX5_hour_26 rfl (lv_at hl 0 rfl) ?_
        refine z_get hx hb hts iwX5_hour_5 hown hK hM.1 rfl 0 (by decide) flX5_hour_7 rfl (v := .ref (o + 1)) rfl dX5_hour_27 ?_
        refine lv_iconst (v := (0 : Int32)) hx hb dX5_hour_30 (by decide) ?_
        refine z_iald (f := μ.2.1) hx hb hK 0 hM.2.1 rfl kI_0 (by omega) dX5_hour_31 ?_
        have hcl6 : (μ.2.1 (0 : Int).toNat).toInt = σ.1.1.toInt := hn0
        refine z_icmp_lt (tgt := 38) hx hb e_y hcl6 dX5_hour_32 (by decide) (fun c_7 => ?_) (fun c_7 => ?_)
        · have hkb := kind_b (h := h) hgo (by omega) (by omega)
          refine lv_aload_n hx hb dX5_hour_38 rfl (lv_at hl 0 rfl) ?_
          refine lv_iload_n hx hb dX5_hour_39 rfl (lv_at hl 1 rfl) ?_
          refine lv_iload_n hx hb dX5_hour_40 rfl (lv_at hl 2 rfl) ?_
          refine z_cV (As := [.int x, .int y]) (rest := []) ⟨hx, hb, hml, hown, hts⟩ (kX5_isRead l G o μ x t e_x y h e_y σ.1 (by first | assumption | omega) (by first | assumption | omega) (by first | assumption | omega) (by first | assumption | omega)) (cwV 2 hts gX5_hour_X5_isRead rfl rfl rfl hyX5_isRead ⟨Nat.le_of_ble_eq_true rfl, Nat.le_of_ble_eq_true rfl⟩) hK hM hM.1 rfl rfl hl.1 rfl (Nat.le_of_ble_eq_true rfl) dX5_hour_41 ⟨Nat.zero_le _, Nat.zero_le _⟩ (fun z8 e8 => ?_)
          have e8 : isB z8 (kindZ (σ.1.2.2 t.toNat) h = 0) := e8
          refine lv_istore hx hb dX5_hour_44 hl (by decide) rfl (fun ls hl => ?_)
          have hl : lv_has ls 6 [(4, .int z8), (0, .ref o), (1, .int x), (2, .int y), (3, .int xw)] := hl
          refine lv_aload_n hx hb dX5_hour_46 rfl (lv_at hl 1 rfl) ?_
          refine z_get hx hb hts iwX5_hour_5 hown hK hM.1 rfl 0 (by decide) flX5_hour_7 rfl (v := .ref (o + 1)) rfl dX5_hour_47 ?_
          refine lv_iload_n hx hb dX5_hour_50 rfl (lv_at hl 2 rfl) ?_
          refine lv_sipush (v := (369 : Int32)) hx hb dX5_hour_51 (by decide) ?_
          refine lv_iload_n hx hb dX5_hour_54 rfl (lv_at hl 3 rfl) ?_
          refine z_iadd hx hb kI_369 e_y dX5_hour_55 (by omega) (fun z9 e9 => ?_)
          refine z_cS (As := [.int x, .int z9]) (rest := [.ref (o + 1)]) ⟨hx, hb, hml, hown, hts⟩ (kX5_of l G x t e_x z9 ((369 : Int) + h) e9 (by first | assumption | omega)) (va_cwS 2 hts gX5_hour_X5_of rfl rfl rfl hyX5_of ⟨Nat.le_of_ble_eq_true rfl, Nat.le_of_ble_eq_true rfl⟩) hK trivial rfl hl.1 rfl (Nat.le_of_ble_eq_true rfl) dX5_hour_56 ⟨Nat.zero_le _, Nat.zero_le _⟩ (fun z10 e10 => ?_)
          have e10 : z10.toInt = 10 + 731 * t + ((369 : Int) + h) := e10
          refine z_iald (f := μ.2.1) hx hb hK 0 hM.2.1 rfl e10 (by omega) dX5_hour_59 ?_
          have hcl11 : (μ.2.1 (10 + 731 * t + ((369 : Int) + h)).toNat).toInt = (if kindZ (σ.1.2.2 t.toNat) h = 2 then (1 : Int) else 0) := (hR.rd ht (by omega)).2.1
          refine lv_iconst (v := (1 : Int32)) hx hb dX5_hour_60 (by decide) ?_
          refine z_icmp_ne (tgt := 68) hx hb hcl11 kI_1 dX5_hour_61 (by decide) (fun c_12 => ?_) (fun c_12 => ?_)
          · have hk2 := if_n1 c_12
            refine lv_iconst (v := (0 : Int32)) hx hb dX5_hour_68 (by decide) ?_
            refine lv_istore hx hb dX5_hour_69 hl (by decide) rfl (fun ls hl => ?_)
            have hl : lv_has ls 6 [(5, .int (0 : Int32)), (4, .int z8), (0, .ref o), (1, .int x), (2, .int y), (3, .int xw)] := hl
            refine lv_iload_n hx hb dX5_hour_71 rfl (lv_at hl 5 rfl) ?_
            rcases (show w < 0 ∨ 3 < w ∨ w = 0 ∨ w = 1 ∨ w = 2 ∨ w = 3 from by omega) with c_13 | c_13 | c_13 | c_13 | c_13 | c_13
            · refine lv_tableOut (tgt := 186) hx hb dX5_hour_72 (by rw [e_xw]; omega) (by decide) ?_
              refine lv_iload hx hb dX5_hour_186 (lv_at hl 1 rfl) ?_
              refine z_ifb_eq (tgt := 195) hx hb e8 dX5_hour_188 (by decide) (fun c_14 => ?_) (fun c_14 => ?_)
              · refine lv_iload hx hb dX5_hour_195 (lv_at hl 0 rfl) ?_
                refine z_if_eq (tgt := 204) hx hb kI_0 dX5_hour_197 (by decide) (fun c_15 => ?_) (fun c_15 => ?_)
                · refine lv_iconst (v := (1 : Int32)) hx hb dX5_hour_204 (by decide) ?_
                  exact z_ri (v := (1 : Int32)) hx hb hr hlocks (show (1 : Int32).toInt = a_hour σ t h w from (by rw [ahr (by omega) (by omega) (by omega) (by omega)]; rw [hrW_4 (by omega)]; show (1 : Int) = kindZ _ _; omega)) dX5_hour_205
                · omega
              · refine lv_iconst (v := (0 : Int32)) hx hb dX5_hour_191 (by decide) ?_
                refine lv_goto (tgt := 205) hx hb dX5_hour_192 (by decide) ?_
                exact z_ri (v := (0 : Int32)) hx hb hr hlocks (show (0 : Int32).toInt = a_hour σ t h w from (by rw [ahr (by omega) (by omega) (by omega) (by omega)]; rw [hrW_4 (by omega)]; show (0 : Int) = kindZ _ _; omega)) dX5_hour_205
            · refine lv_tableOut (tgt := 186) hx hb dX5_hour_72 (by rw [e_xw]; omega) (by decide) ?_
              refine lv_iload hx hb dX5_hour_186 (lv_at hl 1 rfl) ?_
              refine z_ifb_eq (tgt := 195) hx hb e8 dX5_hour_188 (by decide) (fun c_16 => ?_) (fun c_16 => ?_)
              · refine lv_iload hx hb dX5_hour_195 (lv_at hl 0 rfl) ?_
                refine z_if_eq (tgt := 204) hx hb kI_0 dX5_hour_197 (by decide) (fun c_17 => ?_) (fun c_17 => ?_)
                · refine lv_iconst (v := (1 : Int32)) hx hb dX5_hour_204 (by decide) ?_
                  exact z_ri (v := (1 : Int32)) hx hb hr hlocks (show (1 : Int32).toInt = a_hour σ t h w from (by rw [ahr (by omega) (by omega) (by omega) (by omega)]; rw [hrW_4 (by omega)]; show (1 : Int) = kindZ _ _; omega)) dX5_hour_205
                · omega
              · refine lv_iconst (v := (0 : Int32)) hx hb dX5_hour_191 (by decide) ?_
                refine lv_goto (tgt := 205) hx hb dX5_hour_192 (by decide) ?_
                exact z_ri (v := (0 : Int32)) hx hb hr hlocks (show (0 : Int32).toInt = a_hour σ t h w from (by rw [ahr (by omega) (by omega) (by omega) (by omega)]; rw [hrW_4 (by omega)]; show (0 : Int) = kindZ _ _; omega)) dX5_hour_205
            · refine lv_tableIn (off := 32) (tgt := 104) hx hb dX5_hour_72 (by rw [e_xw]; omega) (by rw [e_xw]; omega) (by rw [e_xw, c_13]; rfl) (by decide) ?_
              refine lv_iload hx hb dX5_hour_104 (lv_at hl 1 rfl) ?_
              refine z_ifb_eq (tgt := 128) hx hb e8 dX5_hour_106 (by decide) (fun c_18 => ?_) (fun c_18 => ?_)
              · refine lv_bipush (v := (-5 : Int32)) hx hb dX5_hour_128 (by decide) ?_
                exact z_ri (v := (-5 : Int32)) hx hb hr hlocks (show (-5 : Int32).toInt = a_hour σ t h w from (by rw [ahr (by omega) (by omega) (by omega) (by omega)]; have hw9 : w = 0 := (by omega); subst hw9; first | exact (kI_m5).trans (if_pos (by assumption)).symm | exact (if_neg (by assumption)).symm)) dX5_hour_130
              · refine lv_aload_n hx hb dX5_hour_109 rfl (lv_at hl 2 rfl) ?_
                refine z_get hx hb hts iwX5_hour_5 hown hK hM.1 rfl 0 (by decide) flX5_hour_7 rfl (v := .ref (o + 1)) rfl dX5_hour_110 ?_
                refine lv_iload_n hx hb dX5_hour_113 rfl (lv_at hl 3 rfl) ?_
                refine lv_bipush (v := (9 : Int32)) hx hb dX5_hour_114 (by decide) ?_
                refine lv_iload_n hx hb dX5_hour_116 rfl (lv_at hl 4 rfl) ?_
                refine z_iadd hx hb kI_9 e_y dX5_hour_117 (by omega) (fun z19 e19 => ?_)
                refine z_cS (As := [.int x, .int z19]) (rest := [.ref (o + 1)]) ⟨hx, hb, hml, hown, hts⟩ (kX5_of l G x t e_x z19 ((9 : Int) + h) e19 (by first | assumption | omega)) (va_cwS 2 hts gX5_hour_X5_of rfl rfl rfl hyX5_of ⟨Nat.le_of_ble_eq_true rfl, Nat.le_of_ble_eq_true rfl⟩) hK trivial rfl hl.1 rfl (Nat.le_of_ble_eq_true rfl) dX5_hour_118 ⟨Nat.zero_le _, Nat.zero_le _⟩ (fun z20 e20 => ?_)
                have e20 : z20.toInt = 10 + 731 * t + ((9 : Int) + h) := e20
                refine z_iald (f := μ.2.1) hx hb hK 0 hM.2.1 rfl e20 (by omega) dX5_hour_121 ?_
                have hcl21 : (μ.2.1 (10 + 731 * t + ((9 : Int) + h)).toNat).toInt = readZ (σ.1.2.2 t.toNat) h := ((hR.rd ht (by omega)).2.2.1 (by assumption))
                refine lv_ldc (v := (100000 : Int32)) hx hb hown (hts _ flX5_hour_c53) dX5_hour_122 ?_
                refine z_iadd hx hb hcl21 kI_100000 dX5_hour_124 (by omega) (fun z22 e22 => ?_)
                refine lv_goto (tgt := 130) hx hb dX5_hour_125 (by decide) ?_
                exact z_ri (v := z22) hx hb hr hlocks (show z22.toInt = a_hour σ t h w from (by rw [ahr (by omega) (by omega) (by omega) (by omega)]; have hw9 : w = 0 := (by omega); subst hw9; first | exact (e22).trans (if_pos (by assumption)).symm | exact (if_neg (by assumption)).symm)) dX5_hour_130
            · refine lv_tableIn (off := 59) (tgt := 131) hx hb dX5_hour_72 (by rw [e_xw]; omega) (by rw [e_xw]; omega) (by rw [e_xw, c_13]; rfl) (by decide) ?_
              refine lv_iload hx hb dX5_hour_131 (lv_at hl 1 rfl) ?_
              refine z_ifb_eq (tgt := 148) hx hb e8 dX5_hour_133 (by decide) (fun c_23 => ?_) (fun c_23 => ?_)
              · refine lv_bipush (v := (-5 : Int32)) hx hb dX5_hour_148 (by decide) ?_
                exact z_ri (v := (-5 : Int32)) hx hb hr hlocks (show (-5 : Int32).toInt = a_hour σ t h w from (by rw [ahr (by omega) (by omega) (by omega) (by omega)]; have hw9 : w = 1 := (by omega); subst hw9; first | exact (kI_m5).trans (if_pos (by assumption)).symm | exact (if_neg (by assumption)).symm)) dX5_hour_150
              · refine lv_aload_n hx hb dX5_hour_136 rfl (lv_at hl 2 rfl) ?_
                refine lv_iload_n hx hb dX5_hour_137 rfl (lv_at hl 3 rfl) ?_
                refine lv_iload_n hx hb dX5_hour_138 rfl (lv_at hl 4 rfl) ?_
                refine z_cV (As := [.int x, .int y]) (rest := []) ⟨hx, hb, hml, hown, hts⟩ (kX5_corrected l G o μ x t e_x y h e_y (σ.1.2.2 t.toNat) σ.1.1.toInt (hR.g ht) hgo (by first | assumption | omega) ht (by first | assumption | omega) (by first | assumption | omega)) (cwV 2 hts gX5_hour_X5_corrected rfl rfl rfl hyX5_corrected ⟨Nat.le_of_ble_eq_true rfl, Nat.le_of_ble_eq_true rfl⟩) hK hM hM.1 rfl rfl hl.1 rfl (Nat.le_of_ble_eq_true rfl) dX5_hour_139 ⟨Nat.zero_le _, Nat.zero_le _⟩ (fun z24 e24 => ?_)
                have e24 : z24.toInt = cordZ (σ.1.2.2 t.toNat) h := e24
                refine lv_ldc (v := (100000 : Int32)) hx hb hown (hts _ flX5_hour_c53) dX5_hour_142 ?_
                refine z_iadd hx hb e24 kI_100000 dX5_hour_144 (by omega) (fun z25 e25 => ?_)
                refine lv_goto (tgt := 150) hx hb dX5_hour_145 (by decide) ?_
                exact z_ri (v := z25) hx hb hr hlocks (show z25.toInt = a_hour σ t h w from (by rw [ahr (by omega) (by omega) (by omega) (by omega)]; have hw9 : w = 1 := (by omega); subst hw9; first | exact (e25).trans (if_pos (by assumption)).symm | exact (if_neg (by assumption)).symm)) dX5_hour_150
            · refine lv_tableIn (off := 79) (tgt := 151) hx hb dX5_hour_72 (by rw [e_xw]; omega) (by rw [e_xw]; omega) (by rw [e_xw, c_13]; rfl) (by decide) ?_
              refine lv_iload hx hb dX5_hour_151 (lv_at hl 0 rfl) ?_
              refine z_if_eq (tgt := 176) hx hb kI_0 dX5_hour_153 (by decide) (fun c_26 => ?_) (fun c_26 => ?_)
              · refine lv_bipush (v := (-5 : Int32)) hx hb dX5_hour_176 (by decide) ?_
                exact z_ri (v := (-5 : Int32)) hx hb hr hlocks (show (-5 : Int32).toInt = a_hour σ t h w from (by rw [ahr (by omega) (by omega) (by omega) (by omega)]; have hw9 : w = 2 := (by omega); subst hw9; first | exact (kI_m5).trans (if_pos (by assumption)).symm | exact (if_neg (by assumption)).symm)) dX5_hour_178
              · omega
            · refine lv_tableIn (off := 107) (tgt := 179) hx hb dX5_hour_72 (by rw [e_xw]; omega) (by rw [e_xw]; omega) (by rw [e_xw, c_13]; rfl) (by decide) ?_
              refine lv_aload_n hx hb dX5_hour_179 rfl (lv_at hl 2 rfl) ?_
              refine lv_iload_n hx hb dX5_hour_180 rfl (lv_at hl 3 rfl) ?_
              refine lv_iload_n hx hb dX5_hour_181 rfl (lv_at hl 4 rfl) ?_
              refine z_cV (As := [.int x, .int y]) (rest := []) ⟨hx, hb, hml, hown, hts⟩ (kX5_correction l G o μ x t e_x y h e_y (σ.1.2.2 t.toNat) σ.1.1.toInt (hR.g ht) hgo (by first | assumption | omega) ht (by first | assumption | omega)) (cwV 2 hts gX5_hour_X5_correction rfl rfl rfl hyX5_correction ⟨Nat.le_of_ble_eq_true rfl, Nat.le_of_ble_eq_true rfl⟩) hK hM hM.1 rfl rfl hl.1 rfl (Nat.le_of_ble_eq_true rfl) dX5_hour_182 ⟨Nat.zero_le _, Nat.zero_le _⟩ (fun z27 e27 => ?_)
              have e27 : z27.toInt = corrZ (σ.1.2.2 t.toNat) h := e27
              exact z_ri (v := z27) hx hb hr hlocks (show z27.toInt = a_hour σ t h w from (by rw [ahr (by omega) (by omega) (by omega) (by omega)]; have hw9 : w = 3 := (by omega); subst hw9; exact e27)) dX5_hour_185
          · have hk2 := if_1 c_12
            refine lv_iconst (v := (1 : Int32)) hx hb dX5_hour_64 (by decide) ?_
            refine lv_goto (tgt := 69) hx hb dX5_hour_65 (by decide) ?_
            refine lv_istore hx hb dX5_hour_69 hl (by decide) rfl (fun ls hl => ?_)
            have hl : lv_has ls 6 [(5, .int (1 : Int32)), (4, .int z8), (0, .ref o), (1, .int x), (2, .int y), (3, .int xw)] := hl
            refine lv_iload_n hx hb dX5_hour_71 rfl (lv_at hl 5 rfl) ?_
            rcases (show w < 0 ∨ 3 < w ∨ w = 0 ∨ w = 1 ∨ w = 2 ∨ w = 3 from by omega) with c_28 | c_28 | c_28 | c_28 | c_28 | c_28
            · refine lv_tableOut (tgt := 186) hx hb dX5_hour_72 (by rw [e_xw]; omega) (by decide) ?_
              refine lv_iload hx hb dX5_hour_186 (lv_at hl 1 rfl) ?_
              refine z_ifb_eq (tgt := 195) hx hb e8 dX5_hour_188 (by decide) (fun c_29 => ?_) (fun c_29 => ?_)
              · refine lv_iload hx hb dX5_hour_195 (lv_at hl 0 rfl) ?_
                refine z_if_eq (tgt := 204) hx hb kI_1 dX5_hour_197 (by decide) (fun c_30 => ?_) (fun c_30 => ?_)
                · omega
                · refine lv_iconst (v := (2 : Int32)) hx hb dX5_hour_200 (by decide) ?_
                  refine lv_goto (tgt := 205) hx hb dX5_hour_201 (by decide) ?_
                  exact z_ri (v := (2 : Int32)) hx hb hr hlocks (show (2 : Int32).toInt = a_hour σ t h w from (by rw [ahr (by omega) (by omega) (by omega) (by omega)]; rw [hrW_4 (by omega)]; show (2 : Int) = kindZ _ _; omega)) dX5_hour_205
              · refine lv_iconst (v := (0 : Int32)) hx hb dX5_hour_191 (by decide) ?_
                refine lv_goto (tgt := 205) hx hb dX5_hour_192 (by decide) ?_
                exact z_ri (v := (0 : Int32)) hx hb hr hlocks (show (0 : Int32).toInt = a_hour σ t h w from (by rw [ahr (by omega) (by omega) (by omega) (by omega)]; rw [hrW_4 (by omega)]; show (0 : Int) = kindZ _ _; omega)) dX5_hour_205
            · refine lv_tableOut (tgt := 186) hx hb dX5_hour_72 (by rw [e_xw]; omega) (by decide) ?_
              refine lv_iload hx hb dX5_hour_186 (lv_at hl 1 rfl) ?_
              refine z_ifb_eq (tgt := 195) hx hb e8 dX5_hour_188 (by decide) (fun c_31 => ?_) (fun c_31 => ?_)
              · refine lv_iload hx hb dX5_hour_195 (lv_at hl 0 rfl) ?_
                refine z_if_eq (tgt := 204) hx hb kI_1 dX5_hour_197 (by decide) (fun c_32 => ?_) (fun c_32 => ?_)
                · omega
                · refine lv_iconst (v := (2 : Int32)) hx hb dX5_hour_200 (by decide) ?_
                  refine lv_goto (tgt := 205) hx hb dX5_hour_201 (by decide) ?_
                  exact z_ri (v := (2 : Int32)) hx hb hr hlocks (show (2 : Int32).toInt = a_hour σ t h w from (by rw [ahr (by omega) (by omega) (by omega) (by omega)]; rw [hrW_4 (by omega)]; show (2 : Int) = kindZ _ _; omega)) dX5_hour_205
              · refine lv_iconst (v := (0 : Int32)) hx hb dX5_hour_191 (by decide) ?_
                refine lv_goto (tgt := 205) hx hb dX5_hour_192 (by decide) ?_
                exact z_ri (v := (0 : Int32)) hx hb hr hlocks (show (0 : Int32).toInt = a_hour σ t h w from (by rw [ahr (by omega) (by omega) (by omega) (by omega)]; rw [hrW_4 (by omega)]; show (0 : Int) = kindZ _ _; omega)) dX5_hour_205
            · refine lv_tableIn (off := 32) (tgt := 104) hx hb dX5_hour_72 (by rw [e_xw]; omega) (by rw [e_xw]; omega) (by rw [e_xw, c_28]; rfl) (by decide) ?_
              refine lv_iload hx hb dX5_hour_104 (lv_at hl 1 rfl) ?_
              refine z_ifb_eq (tgt := 128) hx hb e8 dX5_hour_106 (by decide) (fun c_33 => ?_) (fun c_33 => ?_)
              · refine lv_bipush (v := (-5 : Int32)) hx hb dX5_hour_128 (by decide) ?_
                exact z_ri (v := (-5 : Int32)) hx hb hr hlocks (show (-5 : Int32).toInt = a_hour σ t h w from (by rw [ahr (by omega) (by omega) (by omega) (by omega)]; have hw9 : w = 0 := (by omega); subst hw9; first | exact (kI_m5).trans (if_pos (by assumption)).symm | exact (if_neg (by assumption)).symm)) dX5_hour_130
              · refine lv_aload_n hx hb dX5_hour_109 rfl (lv_at hl 2 rfl) ?_
                refine z_get hx hb hts iwX5_hour_5 hown hK hM.1 rfl 0 (by decide) flX5_hour_7 rfl (v := .ref (o + 1)) rfl dX5_hour_110 ?_
                refine lv_iload_n hx hb dX5_hour_113 rfl (lv_at hl 3 rfl) ?_
                refine lv_bipush (v := (9 : Int32)) hx hb dX5_hour_114 (by decide) ?_
                refine lv_iload_n hx hb dX5_hour_116 rfl (lv_at hl 4 rfl) ?_
                refine z_iadd hx hb kI_9 e_y dX5_hour_117 (by omega) (fun z34 e34 => ?_)
                refine z_cS (As := [.int x, .int z34]) (rest := [.ref (o + 1)]) ⟨hx, hb, hml, hown, hts⟩ (kX5_of l G x t e_x z34 ((9 : Int) + h) e34 (by first | assumption | omega)) (va_cwS 2 hts gX5_hour_X5_of rfl rfl rfl hyX5_of ⟨Nat.le_of_ble_eq_true rfl, Nat.le_of_ble_eq_true rfl⟩) hK trivial rfl hl.1 rfl (Nat.le_of_ble_eq_true rfl) dX5_hour_118 ⟨Nat.zero_le _, Nat.zero_le _⟩ (fun z35 e35 => ?_)
                have e35 : z35.toInt = 10 + 731 * t + ((9 : Int) + h) := e35
                refine z_iald (f := μ.2.1) hx hb hK 0 hM.2.1 rfl e35 (by omega) dX5_hour_121 ?_
                have hcl36 : (μ.2.1 (10 + 731 * t + ((9 : Int) + h)).toNat).toInt = readZ (σ.1.2.2 t.toNat) h := ((hR.rd ht (by omega)).2.2.1 (by assumption))
                refine lv_ldc (v := (100000 : Int32)) hx hb hown (hts _ flX5_hour_c53) dX5_hour_122 ?_
                refine z_iadd hx hb hcl36 kI_100000 dX5_hour_124 (by omega) (fun z37 e37 => ?_)
                refine lv_goto (tgt := 130) hx hb dX5_hour_125 (by decide) ?_
                exact z_ri (v := z37) hx hb hr hlocks (show z37.toInt = a_hour σ t h w from (by rw [ahr (by omega) (by omega) (by omega) (by omega)]; have hw9 : w = 0 := (by omega); subst hw9; first | exact (e37).trans (if_pos (by assumption)).symm | exact (if_neg (by assumption)).symm)) dX5_hour_130
            · refine lv_tableIn (off := 59) (tgt := 131) hx hb dX5_hour_72 (by rw [e_xw]; omega) (by rw [e_xw]; omega) (by rw [e_xw, c_28]; rfl) (by decide) ?_
              refine lv_iload hx hb dX5_hour_131 (lv_at hl 1 rfl) ?_
              refine z_ifb_eq (tgt := 148) hx hb e8 dX5_hour_133 (by decide) (fun c_38 => ?_) (fun c_38 => ?_)
              · refine lv_bipush (v := (-5 : Int32)) hx hb dX5_hour_148 (by decide) ?_
                exact z_ri (v := (-5 : Int32)) hx hb hr hlocks (show (-5 : Int32).toInt = a_hour σ t h w from (by rw [ahr (by omega) (by omega) (by omega) (by omega)]; have hw9 : w = 1 := (by omega); subst hw9; first | exact (kI_m5).trans (if_pos (by assumption)).symm | exact (if_neg (by assumption)).symm)) dX5_hour_150
              · refine lv_aload_n hx hb dX5_hour_136 rfl (lv_at hl 2 rfl) ?_
                refine lv_iload_n hx hb dX5_hour_137 rfl (lv_at hl 3 rfl) ?_
                refine lv_iload_n hx hb dX5_hour_138 rfl (lv_at hl 4 rfl) ?_
                refine z_cV (As := [.int x, .int y]) (rest := []) ⟨hx, hb, hml, hown, hts⟩ (kX5_corrected l G o μ x t e_x y h e_y (σ.1.2.2 t.toNat) σ.1.1.toInt (hR.g ht) hgo (by first | assumption | omega) ht (by first | assumption | omega) (by first | assumption | omega)) (cwV 2 hts gX5_hour_X5_corrected rfl rfl rfl hyX5_corrected ⟨Nat.le_of_ble_eq_true rfl, Nat.le_of_ble_eq_true rfl⟩) hK hM hM.1 rfl rfl hl.1 rfl (Nat.le_of_ble_eq_true rfl) dX5_hour_139 ⟨Nat.zero_le _, Nat.zero_le _⟩ (fun z39 e39 => ?_)
                have e39 : z39.toInt = cordZ (σ.1.2.2 t.toNat) h := e39
                refine lv_ldc (v := (100000 : Int32)) hx hb hown (hts _ flX5_hour_c53) dX5_hour_142 ?_
                refine z_iadd hx hb e39 kI_100000 dX5_hour_144 (by omega) (fun z40 e40 => ?_)
                refine lv_goto (tgt := 150) hx hb dX5_hour_145 (by decide) ?_
                exact z_ri (v := z40) hx hb hr hlocks (show z40.toInt = a_hour σ t h w from (by rw [ahr (by omega) (by omega) (by omega) (by omega)]; have hw9 : w = 1 := (by omega); subst hw9; first | exact (e40).trans (if_pos (by assumption)).symm | exact (if_neg (by assumption)).symm)) dX5_hour_150
            · refine lv_tableIn (off := 79) (tgt := 151) hx hb dX5_hour_72 (by rw [e_xw]; omega) (by rw [e_xw]; omega) (by rw [e_xw, c_28]; rfl) (by decide) ?_
              refine lv_iload hx hb dX5_hour_151 (lv_at hl 0 rfl) ?_
              refine z_if_eq (tgt := 176) hx hb kI_1 dX5_hour_153 (by decide) (fun c_41 => ?_) (fun c_41 => ?_)
              · omega
              · refine lv_aload_n hx hb dX5_hour_156 rfl (lv_at hl 2 rfl) ?_
                refine z_get hx hb hts iwX5_hour_5 hown hK hM.1 rfl 0 (by decide) flX5_hour_7 rfl (v := .ref (o + 1)) rfl dX5_hour_157 ?_
                refine lv_iload_n hx hb dX5_hour_160 rfl (lv_at hl 3 rfl) ?_
                refine lv_sipush (v := (249 : Int32)) hx hb dX5_hour_161 (by decide) ?_
                refine lv_iload_n hx hb dX5_hour_164 rfl (lv_at hl 4 rfl) ?_
                refine z_iadd hx hb kI_249 e_y dX5_hour_165 (by omega) (fun z42 e42 => ?_)
                refine z_cS (As := [.int x, .int z42]) (rest := [.ref (o + 1)]) ⟨hx, hb, hml, hown, hts⟩ (kX5_of l G x t e_x z42 ((249 : Int) + h) e42 (by first | assumption | omega)) (va_cwS 2 hts gX5_hour_X5_of rfl rfl rfl hyX5_of ⟨Nat.le_of_ble_eq_true rfl, Nat.le_of_ble_eq_true rfl⟩) hK trivial rfl hl.1 rfl (Nat.le_of_ble_eq_true rfl) dX5_hour_166 ⟨Nat.zero_le _, Nat.zero_le _⟩ (fun z43 e43 => ?_)
                have e43 : z43.toInt = 10 + 731 * t + ((249 : Int) + h) := e43
                refine z_iald (f := μ.2.1) hx hb hK 0 hM.2.1 rfl e43 (by omega) dX5_hour_169 ?_
                have hcl44 : (μ.2.1 (10 + 731 * t + ((249 : Int) + h)).toNat).toInt = valZ (σ.1.2.2 t.toNat) h := (((hR.rd ht (by omega)).2.2.2 hk2).trans (if_pos hk2).symm)
                refine lv_ldc (v := (100000 : Int32)) hx hb hown (hts _ flX5_hour_c53) dX5_hour_170 ?_
                refine z_iadd hx hb hcl44 kI_100000 dX5_hour_172 (by omega) (fun z45 e45 => ?_)
                refine lv_goto (tgt := 178) hx hb dX5_hour_173 (by decide) ?_
                exact z_ri (v := z45) hx hb hr hlocks (show z45.toInt = a_hour σ t h w from (by rw [ahr (by omega) (by omega) (by omega) (by omega)]; have hw9 : w = 2 := (by omega); subst hw9; first | exact (e45).trans (if_pos (by assumption)).symm | exact (if_neg (by assumption)).symm)) dX5_hour_178
            · refine lv_tableIn (off := 107) (tgt := 179) hx hb dX5_hour_72 (by rw [e_xw]; omega) (by rw [e_xw]; omega) (by rw [e_xw, c_28]; rfl) (by decide) ?_
              refine lv_aload_n hx hb dX5_hour_179 rfl (lv_at hl 2 rfl) ?_
              refine lv_iload_n hx hb dX5_hour_180 rfl (lv_at hl 3 rfl) ?_
              refine lv_iload_n hx hb dX5_hour_181 rfl (lv_at hl 4 rfl) ?_
              refine z_cV (As := [.int x, .int y]) (rest := []) ⟨hx, hb, hml, hown, hts⟩ (kX5_correction l G o μ x t e_x y h e_y (σ.1.2.2 t.toNat) σ.1.1.toInt (hR.g ht) hgo (by first | assumption | omega) ht (by first | assumption | omega)) (cwV 2 hts gX5_hour_X5_correction rfl rfl rfl hyX5_correction ⟨Nat.le_of_ble_eq_true rfl, Nat.le_of_ble_eq_true rfl⟩) hK hM hM.1 rfl rfl hl.1 rfl (Nat.le_of_ble_eq_true rfl) dX5_hour_182 ⟨Nat.zero_le _, Nat.zero_le _⟩ (fun z46 e46 => ?_)
              have e46 : z46.toInt = corrZ (σ.1.2.2 t.toNat) h := e46
              exact z_ri (v := z46) hx hb hr hlocks (show z46.toInt = a_hour σ t h w from (by rw [ahr (by omega) (by omega) (by omega) (by omega)]; have hw9 : w = 3 := (by omega); subst hw9; exact e46)) dX5_hour_185
        · refine lv_bipush (v := (-5 : Int32)) hx hb dX5_hour_35 (by decide) ?_
          exact z_ri (v := (-5 : Int32)) hx hb hr hlocks (show (-5 : Int32).toInt = a_hour σ t h w from (by unfold a_hour; (repeat' split) <;> first | rfl | omega | contradiction | assumption)) dX5_hour_37
      · refine lv_bipush (v := (-2 : Int32)) hx hb dX5_hour_22 (by decide) ?_
        exact z_ri (v := (-2 : Int32)) hx hb hr hlocks (show (-2 : Int32).toInt = a_hour σ t h w from (by unfold a_hour; (repeat' split) <;> first | rfl | omega | contradiction | assumption)) dX5_hour_24
  · refine lv_iconst (v := (-1 : Int32)) hx hb dX5_hour_7 (by decide) ?_
    exact z_ri (v := (-1 : Int32)) hx hb hr hlocks (show (-1 : Int32).toInt = a_hour σ t h w from (by unfold a_hour; (repeat' split) <;> first | rfl | omega | contradiction | assumption)) dX5_hour_8
