abbrev rmX5_in : Room := { frames := 0, cells := 0, slots := 0, locals := 0 }
theorem hyX5_in : yX5_in.cls ≠ "java/lang/invoke/MethodHandle" ∧ yX5_in.cls ≠ "java/lang/invoke/VarHandle" ∧ (parseMethodDescriptor yX5_in.desc).map (fun d => d.parameters.length) = some 3 := by decide +kernel
set_option maxHeartbeats 4000000 in
set_option maxRecDepth 100000 in
theorem kX5_in (l : Launch) (G : xG) (x : Int32) (n : Int) (e_x : x.toInt = n) (y : Int32) (lo : Int) (e_y : y.toInt = lo) (xz : Int32) (hi : Int) (e_xz : xz.toInt = hi) : Met l yX5_in wsX5_in rmX5_in (va_Pc [.int x, .int y, .int xz] (zPre G (fun H => True))) (zS (fun v => isB v (lo ≤ n ∧ n ≤ hi))) 0 0 zno := by
  refine z_ofW (cc := cX5_in) (maxL := 3) (ret := some .boolean) (by decide +kernel) rfl (Nat.le_of_ble_eq_true rfl) ?_
  intro p e s m below meth c hx hb hml hr hts hown hlocks hK hP ls hl
  have hown : s.vm.findClass RX5 = some m.cls := hown
  have hl : lv_has ls 3 [(0, .int x), (1, .int y), (2, .int xz)] := hl
  refine lv_iload_n hx hb dX5_in_0 rfl (lv_at hl 0 rfl) ?_
  refine lv_iload_n hx hb dX5_in_1 rfl (lv_at hl 1 rfl) ?_
  refine z_icmp_lt (tgt := 14) hx hb e_x e_y dX5_in_2 (by decide) (fun c_1 => ?_) (fun c_1 => ?_)
  · refine lv_iconst (v := (0 : Int32)) hx hb dX5_in_14 (by decide) ?_
    exact z_rb (v := (0 : Int32)) hx hb hr hlocks rfl (isB.f rfl (by omega)) dX5_in_15
  · refine lv_iload_n hx hb dX5_in_5 rfl (lv_at hl 0 rfl) ?_
    refine lv_iload_n hx hb dX5_in_6 rfl (lv_at hl 2 rfl) ?_
    refine z_icmp_gt (tgt := 14) hx hb e_x e_xz dX5_in_7 (by decide) (fun c_2 => ?_) (fun c_2 => ?_)
    · refine lv_iconst (v := (0 : Int32)) hx hb dX5_in_14 (by decide) ?_
      exact z_rb (v := (0 : Int32)) hx hb hr hlocks rfl (isB.f rfl (by omega)) dX5_in_15
    · refine lv_iconst (v := (1 : Int32)) hx hb dX5_in_10 (by decide) ?_
      refine lv_goto (tgt := 15) hx hb dX5_in_11 (by decide) ?_
      exact z_rb (v := (1 : Int32)) hx hb hr hlocks rfl (isB.t rfl (by omega)) dX5_in_15

abbrev rmX5_of : Room := { frames := 0, cells := 0, slots := 0, locals := 0 }
theorem hyX5_of : yX5_of.cls ≠ "java/lang/invoke/MethodHandle" ∧ yX5_of.cls ≠ "java/lang/invoke/VarHandle" ∧ (parseMethodDescriptor yX5_of.desc).map (fun d => d.parameters.length) = some 2 := by decide +kernel
set_option maxHeartbeats 4000000 in
set_option maxRecDepth 100000 in
theorem kX5_of (l : Launch) (G : xG) (x : Int32) (t : Int) (e_x : x.toInt = t) (y : Int32) (w : Int) (e_y : y.toInt = w) (hb9 : -1000 ≤ t ∧ t ≤ 1000 ∧ -1000000 ≤ w ∧ w ≤ 1000000) : Met l yX5_of wsX5_of rmX5_of (va_Pc [.int x, .int y] (zPre G (fun H => True))) (zS (fun v => v.toInt = 10 + 731 * t + w)) 0 0 zno := by
  refine z_ofW (cc := cX5_of) (maxL := 2) (ret := some .int) (by decide +kernel) rfl (Nat.le_of_ble_eq_true rfl) ?_
  intro p e s m below meth c hx hb hml hr hts hown hlocks hK hP ls hl
  have hown : s.vm.findClass RX5 = some m.cls := hown
  have hl : lv_has ls 2 [(0, .int x), (1, .int y)] := hl
  refine lv_bipush (v := (10 : Int32)) hx hb dX5_of_0 (by decide) ?_
  refine lv_sipush (v := (731 : Int32)) hx hb dX5_of_2 (by decide) ?_
  refine lv_iload_n hx hb dX5_of_5 rfl (lv_at hl 0 rfl) ?_
  refine z_imul hx hb kI_731 e_x dX5_of_6 (by omega) (fun z1 e1 => ?_)
  refine z_iadd hx hb kI_10 e1 dX5_of_7 (by omega) (fun z2 e2 => ?_)
  refine lv_iload_n hx hb dX5_of_8 rfl (lv_at hl 1 rfl) ?_
  refine z_iadd hx hb e2 e_y dX5_of_9 (by omega) (fun z3 e3 => ?_)
  exact z_ri (v := z3) hx hb hr hlocks (show z3.toInt = 10 + 731 * t + w from (by omega)) dX5_of_10

abbrev rmX5_isStation : Room := { frames := 1, cells := 0, slots := 0, locals := 22 }
theorem hyX5_isStation : yX5_isStation.cls ≠ "java/lang/invoke/MethodHandle" ∧ yX5_isStation.cls ≠ "java/lang/invoke/VarHandle" ∧ (parseMethodDescriptor yX5_isStation.desc).map (fun d => d.parameters.length) = some 1 := by decide +kernel
set_option maxHeartbeats 4000000 in
set_option maxRecDepth 100000 in
theorem kX5_isStation (l : Launch) (G : xG) (x : Int32) (t : Int) (e_x : x.toInt = t) : Met l yX5_isStation wsX5_isStation rmX5_isStation (va_Pc [.int x] (zPre G (fun H => True))) (zS (fun v => isB v (0 ≤ t ∧ t < 3))) 0 0 zno := by
  refine z_ofW (cc := cX5_isStation) (maxL := 1) (ret := some .boolean) (by decide +kernel) rfl (Nat.le_of_ble_eq_true rfl) ?_
  intro p e s m below meth c hx hb hml hr hts hown hlocks hK hP ls hl
  have hown : s.vm.findClass RX5 = some m.cls := hown
  have hl : lv_has ls 1 [(0, .int x)] := hl
  refine lv_iload_n hx hb dX5_isStation_0 rfl (lv_at hl 0 rfl) ?_
  refine lv_iconst (v := (0 : Int32)) hx hb dX5_isStation_1 (by decide) ?_
  refine lv_iconst (v := (2 : Int32)) hx hb dX5_isStation_2 (by decide) ?_
  refine z_cS (As := [.int x, .int (0 : Int32), .int (2 : Int32)]) (rest := []) ⟨hx, hb, hml, hown, hts⟩ (kX5_in l G x t e_x (0 : Int32) (0 : Int) kI_0 (2 : Int32) (2 : Int) kI_2) (va_cwS 3 hts gX5_isStation_X5_in rfl rfl rfl hyX5_in ⟨Nat.le_of_ble_eq_true rfl, Nat.le_of_ble_eq_true rfl⟩) hK trivial rfl hl.1 rfl (Nat.le_of_ble_eq_true rfl) dX5_isStation_3 ⟨Nat.zero_le _, Nat.zero_le _⟩ (fun z1 e1 => ?_)
  have e1 : isB z1 ((0 : Int) ≤ t ∧ t ≤ (2 : Int)) := e1
  exact z_rb (v := z1) hx hb hr hlocks (zi_narB e1) (isB.iff e1 (by first | exact Iff.rfl | (constructor <;> intro <;> omega))) dX5_isStation_6

abbrev rmX5_size : Room := { frames := 0, cells := 0, slots := 0, locals := 0 }
theorem hyX5_size : yX5_size.cls ≠ "java/lang/invoke/MethodHandle" ∧ yX5_size.cls ≠ "java/lang/invoke/VarHandle" ∧ (parseMethodDescriptor yX5_size.desc).map (fun d => d.parameters.length) = some 1 := by decide +kernel
set_option maxHeartbeats 4000000 in
set_option maxRecDepth 100000 in
theorem kX5_size (l : Launch) (G : xG) (x : Int32) (n : Int) (e_x : x.toInt = n) (hv : -2147483647 ≤ n) : Met l yX5_size wsX5_size rmX5_size (va_Pc [.int x] (zPre G (fun H => True))) (zS (fun v => v.toInt = abz n)) 0 0 zno := by
  refine z_ofW (cc := cX5_size) (maxL := 1) (ret := some .int) (by decide +kernel) rfl (Nat.le_of_ble_eq_true rfl) ?_
  intro p e s m below meth c hx hb hml hr hts hown hlocks hK hP ls hl
  have hown : s.vm.findClass RX5 = some m.cls := hown
  have hl : lv_has ls 1 [(0, .int x)] := hl
  refine lv_iload_n hx hb dX5_size_0 rfl (lv_at hl 0 rfl) ?_
  refine z_if_ge (tgt := 9) hx hb e_x dX5_size_1 (by decide) (fun c_1 => ?_) (fun c_1 => ?_)
  · refine lv_iload_n hx hb dX5_size_9 rfl (lv_at hl 0 rfl) ?_
    exact z_ri (v := x) hx hb hr hlocks (show x.toInt = abz n from (by unfold abz; split <;> omega)) dX5_size_10
  · refine lv_iload_n hx hb dX5_size_4 rfl (lv_at hl 0 rfl) ?_
    refine z_ineg hx hb e_x dX5_size_5 (by omega) (fun z2 e2 => ?_)
    refine lv_goto (tgt := 10) hx hb dX5_size_6 (by decide) ?_
    exact z_ri (v := z2) hx hb hr hlocks (show z2.toInt = abz n from (by unfold abz; split <;> omega)) dX5_size_10

abbrev rmX5_divide : Room := { frames := 0, cells := 0, slots := 0, locals := 0 }
theorem hyX5_divide : yX5_divide.cls ≠ "java/lang/invoke/MethodHandle" ∧ yX5_divide.cls ≠ "java/lang/invoke/VarHandle" ∧ (parseMethodDescriptor yX5_divide.desc).map (fun d => d.parameters.length) = some 2 := by decide +kernel
set_option maxHeartbeats 4000000 in
set_option maxRecDepth 100000 in
theorem kX5_divide (l : Launch) (G : xG) (x : Int32) (a : Int) (e_x : x.toInt = a) (y : Int32) (b : Int) (e_y : y.toInt = b) (hb9 : 0 < b ∧ b ≤ 1000 ∧ -2000000000 ≤ a) : Met l yX5_divide wsX5_divide rmX5_divide (va_Pc [.int x, .int y] (zPre G (fun H => True))) (zS (fun v => v.toInt = a / b)) 0 0 zno := by
  refine z_ofW (cc := cX5_divide) (maxL := 2) (ret := some .int) (by decide +kernel) rfl (Nat.le_of_ble_eq_true rfl) ?_
  intro p e s m below meth c hx hb hml hr hts hown hlocks hK hP ls hl
  have hown : s.vm.findClass RX5 = some m.cls := hown
  have hl : lv_has ls 2 [(0, .int x), (1, .int y)] := hl
  refine lv_iload_n hx hb dX5_divide_0 rfl (lv_at hl 0 rfl) ?_
  refine z_if_ge (tgt := 16) hx hb e_x dX5_divide_1 (by decide) (fun c_1 => ?_) (fun c_1 => ?_)
  · refine lv_iload_n hx hb dX5_divide_16 rfl (lv_at hl 0 rfl) ?_
    refine lv_iload_n hx hb dX5_divide_17 rfl (lv_at hl 1 rfl) ?_
    refine z_idivp hx hb e_x e_y dX5_divide_18 (by omega) (fun z2 e2 => ?_)
    exact z_ri (v := z2) hx hb hr hlocks (show z2.toInt = a / b from e2) dX5_divide_19
  · refine lv_iload_n hx hb dX5_divide_4 rfl (lv_at hl 0 rfl) ?_
    refine z_ineg hx hb e_x dX5_divide_5 (by omega) (fun z3 e3 => ?_)
    refine lv_iload_n hx hb dX5_divide_6 rfl (lv_at hl 1 rfl) ?_
    refine z_iadd hx hb e3 e_y dX5_divide_7 (by omega) (fun z4 e4 => ?_)
    refine lv_iconst (v := (1 : Int32)) hx hb dX5_divide_8 (by decide) ?_
    refine z_isub hx hb e4 kI_1 dX5_divide_9 (by omega) (fun z5 e5 => ?_)
    refine lv_iload_n hx hb dX5_divide_10 rfl (lv_at hl 1 rfl) ?_
    refine z_idivp hx hb e5 e_y dX5_divide_11 (by omega) (fun z6 e6 => ?_)
    refine z_ineg hx hb e6 dX5_divide_12 (by have h9 := Int.ediv_nonneg (show 0 ≤ -a + b - 1 by omega) (show 0 ≤ b by omega); omega) (fun z7 e7 => ?_)
    refine lv_goto (tgt := 19) hx hb dX5_divide_13 (by decide) ?_
    exact z_ri (v := z7) hx hb hr hlocks (show z7.toInt = a / b from (by rw [e7]; exact dv_f (by omega) (by omega))) dX5_divide_19

abbrev rmX5_waveAt : Room := { frames := 0, cells := 0, slots := 0, locals := 0 }
theorem iwX5_waveAt_5 : ∀ w ∈ wsX50, w ∈ wsX5_waveAt := fun _ h => List.mem_cons_of_mem _ (List.mem_append_right _ h)
theorem flX5_waveAt_7 : Cond.fieldLink RX5 7 "SiltedFloatsModel" "s" "[I" ∈ wsX5_waveAt := by decide +kernel
theorem hyX5_waveAt : yX5_waveAt.cls = RX5 ∧ yX5_waveAt.cls ≠ "java/lang/invoke/MethodHandle" ∧ yX5_waveAt.cls ≠ "java/lang/invoke/VarHandle" ∧ (parseMethodDescriptor yX5_waveAt.desc).map (fun d => d.parameters.length) = some 2 := by decide +kernel
set_option maxHeartbeats 4000000 in
set_option maxRecDepth 100000 in
theorem kX5_waveAt (l : Launch) (G : xG) (o : Nat) (μ : MD) (x : Int32) (w : Int) (e_x : x.toInt = w) (y : Int32) (h : Int) (e_y : y.toInt = h) (τ : SD) (hW : Rw τ μ.2.1) (hwo : ∀ i, i < 3 → waveOk (τ.2.1 i)) (hh : 0 ≤ w ∧ w < 3 ∧ -900 ≤ h ∧ h ≤ 1000) : Met l yX5_waveAt wsX5_waveAt rmX5_waveAt (va_Pc [.ref o, .int x, .int y] (zPre G (fun H => MO G H o μ))) (zS (fun v => v.toInt = waveZ (τ.2.1 w.toNat) h)) 0 0 zno := by
  refine z_ofW (cc := cX5_waveAt) (maxL := 7) (ret := some .int) (by decide +kernel) rfl (Nat.le_of_ble_eq_true rfl) ?_
  intro p e s m below meth c hx hb hml hr hts hown hlocks hK hP ls hl
  have hM := hP
  have hown : s.vm.findClass RX5 = some m.cls := hown
  have hl : lv_has ls 7 [(0, .ref o), (1, .int x), (2, .int y)] := hl
  obtain ⟨hv1, hv2, hv3⟩ := hwo w.toNat (by omega)
  obtain ⟨hq1, hq2, hq3⟩ := hgtZ_b (F := (τ.2.1 w.toNat 2).toInt) hv1 hv2 h
  obtain ⟨hr1, hr2, hr3⟩ := hW.1 w (by omega) (by omega)
  refine lv_aload_n hx hb dX5_waveAt_0 rfl (lv_at hl 0 rfl) ?_
  refine z_get hx hb hts iwX5_waveAt_5 hown hK hM.1 rfl 0 (by decide) flX5_waveAt_7 rfl (v := .ref (o + 1)) rfl dX5_waveAt_1 ?_
  refine lv_iconst (v := (1 : Int32)) hx hb dX5_waveAt_4 (by decide) ?_
  refine lv_iconst (v := (3 : Int32)) hx hb dX5_waveAt_5 (by decide) ?_
  refine lv_iload_n hx hb dX5_waveAt_6 rfl (lv_at hl 1 rfl) ?_
  refine z_imul hx hb kI_3 e_x dX5_waveAt_7 (by omega) (fun z1 e1 => ?_)
  refine z_iadd hx hb kI_1 e1 dX5_waveAt_8 (by omega) (fun z2 e2 => ?_)
  refine z_iald (f := μ.2.1) hx hb hK 0 hM.2.1 rfl e2 (by omega) dX5_waveAt_9 ?_
  have hcl3 : (μ.2.1 ((1 : Int) + ((3 : Int) * w)).toNat).toInt = (τ.2.1 w.toNat 0).toInt := hr1
  refine lv_istore_n hx hb dX5_waveAt_10 rfl hl (by decide) rfl (fun ls hl => ?_)
  have hl : lv_has ls 7 [(3, .int (μ.2.1 ((1 : Int) + ((3 : Int) * w)).toNat)), (0, .ref o), (1, .int x), (2, .int y)] := hl
  refine lv_aload_n hx hb dX5_waveAt_11 rfl (lv_at hl 1 rfl) ?_
  refine z_get hx hb hts iwX5_waveAt_5 hown hK hM.1 rfl 0 (by decide) flX5_waveAt_7 rfl (v := .ref (o + 1)) rfl dX5_waveAt_12 ?_
  refine lv_iconst (v := (1 : Int32)) hx hb dX5_waveAt_15 (by decide) ?_
  refine lv_iconst (v := (3 : Int32)) hx hb dX5_waveAt_16 (by decide) ?_
  refine lv_iload_n hx hb dX5_waveAt_17 rfl (lv_at hl 2 rfl) ?_
  refine z_imul hx hb kI_3 e_x dX5_waveAt_18 (by omega) (fun z4 e4 => ?_)
  refine z_iadd hx hb kI_1 e4 dX5_waveAt_19 (by omega) (fun z5 e5 => ?_)
  refine lv_iconst (v := (1 : Int32)) hx hb dX5_waveAt_20 (by decide) ?_
  refine z_iadd hx hb e5 kI_1 dX5_waveAt_21 (by omega) (fun z6 e6 => ?_)
  refine z_iald (f := μ.2.1) hx hb hK 0 hM.2.1 rfl e6 (by omega) dX5_waveAt_22 ?_
  have hcl7 : (μ.2.1 (((1 : Int) + ((3 : Int) * w)) + (1 : Int)).toNat).toInt = (τ.2.1 w.toNat 1).toInt := hr2
  refine lv_istore hx hb dX5_waveAt_23 hl (by decide) rfl (fun ls hl => ?_)
  have hl : lv_has ls 7 [(4, .int (μ.2.1 (((1 : Int) + ((3 : Int) * w)) + (1 : Int)).toNat)), (3, .int (μ.2.1 ((1 : Int) + ((3 : Int) * w)).toNat)), (0, .ref o), (1, .int x), (2, .int y)] := hl
  refine lv_iload_n hx hb dX5_waveAt_25 rfl (lv_at hl 4 rfl) ?_
  refine lv_aload_n hx hb dX5_waveAt_26 rfl (lv_at hl 2 rfl) ?_
  refine z_get hx hb hts iwX5_waveAt_5 hown hK hM.1 rfl 0 (by decide) flX5_waveAt_7 rfl (v := .ref (o + 1)) rfl dX5_waveAt_27 ?_
  refine lv_iconst (v := (1 : Int32)) hx hb dX5_waveAt_30 (by decide) ?_
  refine lv_iconst (v := (3 : Int32)) hx hb dX5_waveAt_31 (by decide) ?_
  refine lv_iload_n hx hb dX5_waveAt_32 rfl (lv_at hl 3 rfl) ?_
  refine z_imul hx hb kI_3 e_x dX5_waveAt_33 (by omega) (fun z8 e8 => ?_)
  refine z_iadd hx hb kI_1 e8 dX5_waveAt_34 (by omega) (fun z9 e9 => ?_)
  refine lv_iconst (v := (2 : Int32)) hx hb dX5_waveAt_35 (by decide) ?_
  refine z_iadd hx hb e9 kI_2 dX5_waveAt_36 (by omega) (fun z10 e10 => ?_)
  refine z_iald (f := μ.2.1) hx hb hK 0 hM.2.1 rfl e10 (by omega) dX5_waveAt_37 ?_
  have hcl11 : (μ.2.1 (((1 : Int) + ((3 : Int) * w)) + (2 : Int)).toNat).toInt = (τ.2.1 w.toNat 2).toInt := hr3
  refine z_iadd hx hb e_y hcl11 dX5_waveAt_38 (by omega) (fun z12 e12 => ?_)
  refine lv_sipush (v := (480 : Int32)) hx hb dX5_waveAt_39 (by decide) ?_
  refine lv_iload hx hb dX5_waveAt_42 (lv_at hl 0 rfl) ?_
  refine z_imul hx hb kI_480 hcl7 dX5_waveAt_44 (by omega) (fun z13 e13 => ?_)
  refine z_iadd hx hb e12 e13 dX5_waveAt_45 (by omega) (fun z14 e14 => ?_)
  refine lv_iload hx hb dX5_waveAt_46 (lv_at hl 0 rfl) ?_
  refine z_iremp hx hb e14 hcl7 dX5_waveAt_48 (by omega) (fun z15 e15 => ?_)
  have e15 : z15.toInt = (h + (τ.2.1 w.toNat 2).toInt) % (τ.2.1 w.toNat 1).toInt := by rw [e15]; exact Int.add_mul_emod_self_right _ _ _
  refine lv_istore hx hb dX5_waveAt_49 hl (by decide) rfl (fun ls hl => ?_)
  have hl : lv_has ls 7 [(5, .int z15), (4, .int (μ.2.1 (((1 : Int) + ((3 : Int) * w)) + (1 : Int)).toNat)), (3, .int (μ.2.1 ((1 : Int) + ((3 : Int) * w)).toNat)), (0, .ref o), (1, .int x), (2, .int y)] := hl
  refine lv_iconst (v := (4 : Int32)) hx hb dX5_waveAt_51 (by decide) ?_
  refine lv_iload_n hx hb dX5_waveAt_52 rfl (lv_at hl 2 rfl) ?_
  refine z_imul hx hb kI_4 hcl3 dX5_waveAt_53 (by omega) (fun z16 e16 => ?_)
  refine lv_iload hx hb dX5_waveAt_54 (lv_at hl 0 rfl) ?_
  refine z_imul hx hb e16 e15 dX5_waveAt_56 (by omega) (fun z17 e17 => ?_)
  refine lv_iload hx hb dX5_waveAt_57 (lv_at hl 1 rfl) ?_
  refine z_idivp hx hb e17 hcl7 dX5_waveAt_59 (by omega) (fun z18 e18 => ?_)
  refine lv_istore hx hb dX5_waveAt_60 hl (by decide) rfl (fun ls hl => ?_)
  have hl : lv_has ls 7 [(6, .int z18), (5, .int z15), (4, .int (μ.2.1 (((1 : Int) + ((3 : Int) * w)) + (1 : Int)).toNat)), (3, .int (μ.2.1 ((1 : Int) + ((3 : Int) * w)).toNat)), (0, .ref o), (1, .int x), (2, .int y)] := hl
  refine lv_iconst (v := (2 : Int32)) hx hb dX5_waveAt_62 (by decide) ?_
  refine lv_iload hx hb dX5_waveAt_63 (lv_at hl 1 rfl) ?_
  refine z_imul hx hb kI_2 e15 dX5_waveAt_65 (by omega) (fun z19 e19 => ?_)
  refine lv_iload hx hb dX5_waveAt_66 (lv_at hl 2 rfl) ?_
  refine z_icmp_gt (tgt := 78) hx hb e19 hcl7 dX5_waveAt_68 (by decide) (fun c_20 => ?_) (fun c_20 => ?_)
  · refine lv_iconst (v := (3 : Int32)) hx hb dX5_waveAt_78 (by decide) ?_
    refine lv_iload_n hx hb dX5_waveAt_79 rfl (lv_at hl 3 rfl) ?_
    refine z_imul hx hb kI_3 hcl3 dX5_waveAt_80 (by omega) (fun z21 e21 => ?_)
    refine lv_iload hx hb dX5_waveAt_81 (lv_at hl 0 rfl) ?_
    refine z_isub hx hb e21 e18 dX5_waveAt_83 (by omega) (fun z22 e22 => ?_)
    exact z_ri (v := z22) hx hb hr hlocks (show z22.toInt = waveZ (τ.2.1 w.toNat) h from (by rw [e22]; unfold waveZ hgtZ; rw [if_neg (by omega)])) dX5_waveAt_84
  · refine lv_iload hx hb dX5_waveAt_71 (lv_at hl 0 rfl) ?_
    refine lv_iload_n hx hb dX5_waveAt_73 rfl (lv_at hl 3 rfl) ?_
    refine z_isub hx hb e18 hcl3 dX5_waveAt_74 (by omega) (fun z23 e23 => ?_)
    refine lv_goto (tgt := 84) hx hb dX5_waveAt_75 (by decide) ?_
    exact z_ri (v := z23) hx hb hr hlocks (show z23.toInt = waveZ (τ.2.1 w.toNat) h from (by rw [e23]; unfold waveZ hgtZ; rw [if_pos (by omega)])) dX5_waveAt_84

abbrev rmX5_seaAt : Room := { frames := 1, cells := 0, slots := 0, locals := 26 }
theorem hyX5_seaAt : yX5_seaAt.cls = RX5 ∧ yX5_seaAt.cls ≠ "java/lang/invoke/MethodHandle" ∧ yX5_seaAt.cls ≠ "java/lang/invoke/VarHandle" ∧ (parseMethodDescriptor yX5_seaAt.desc).map (fun d => d.parameters.length) = some 1 := by decide +kernel
set_option maxHeartbeats 4000000 in
set_option maxRecDepth 100000 in
theorem kX5_seaAt (l : Launch) (G : xG) (o : Nat) (μ : MD) (y : Int32) (h : Int) (e_y : y.toInt = h) (τ : SD) (hW : Rw τ μ.2.1) (hwo : ∀ i, i < 3 → waveOk (τ.2.1 i)) (hh : -900 ≤ h ∧ h ≤ 1000) : Met l yX5_seaAt wsX5_seaAt rmX5_seaAt (va_Pc [.ref o, .int y] (zPre G (fun H => MO G H o μ))) (zS (fun v => v.toInt = seaZ τ.2.1 h)) 0 0 zno := by
  refine z_ofW (cc := cX5_seaAt) (maxL := 2) (ret := some .int) (by decide +kernel) rfl (Nat.le_of_ble_eq_true rfl) ?_
  intro p e s m below meth c hx hb hml hr hts hown hlocks hK hP ls hl
  have hM := hP
  have hown : s.vm.findClass RX5 = some m.cls := hown
  have hl : lv_has ls 2 [(0, .ref o), (1, .int y)] := hl
  have hq0 := waveZ_b (hwo 0 (by omega)) h
  have hq1 := waveZ_b (hwo 1 (by omega)) h
  have hq2 := waveZ_b (hwo 2 (by omega)) h
  refine lv_aload_n hx hb dX5_seaAt_0 rfl (lv_at hl 0 rfl) ?_
  refine lv_iconst (v := (0 : Int32)) hx hb dX5_seaAt_1 (by decide) ?_
  refine lv_iload_n hx hb dX5_seaAt_2 rfl (lv_at hl 1 rfl) ?_
  refine z_cV (As := [.int (0 : Int32), .int y]) (rest := []) ⟨hx, hb, hml, hown, hts⟩ (kX5_waveAt l G o μ (0 : Int32) (0 : Int) kI_0 y h e_y τ (by first | assumption | omega) (by first | assumption | omega) (by first | assumption | omega)) (cwV 2 hts gX5_seaAt_X5_waveAt rfl rfl rfl hyX5_waveAt ⟨Nat.le_of_ble_eq_true rfl, Nat.le_of_ble_eq_true rfl⟩) hK hM hM.1 rfl rfl hl.1 rfl (Nat.le_of_ble_eq_true rfl) dX5_seaAt_3 ⟨Nat.zero_le _, Nat.zero_le _⟩ (fun z1 e1 => ?_)
  have e1 : z1.toInt = waveZ (τ.2.1 (0 : Int).toNat) h := e1
  have e1 : z1.toInt = waveZ (τ.2.1 0) h := by rw [e1]; rfl
  refine lv_aload_n hx hb dX5_seaAt_6 rfl (lv_at hl 0 rfl) ?_
  refine lv_iconst (v := (1 : Int32)) hx hb dX5_seaAt_7 (by decide) ?_
  refine lv_iload_n hx hb dX5_seaAt_8 rfl (lv_at hl 1 rfl) ?_
  refine z_cV (As := [.int (1 : Int32), .int y]) (rest := [.int z1]) ⟨hx, hb, hml, hown, hts⟩ (kX5_waveAt l G o μ (1 : Int32) (1 : Int) kI_1 y h e_y τ (by first | assumption | omega) (by first | assumption | omega) (by first | assumption | omega)) (cwV 2 hts gX5_seaAt_X5_waveAt rfl rfl rfl hyX5_waveAt ⟨Nat.le_of_ble_eq_true rfl, Nat.le_of_ble_eq_true rfl⟩) hK hM hM.1 rfl rfl hl.1 rfl (Nat.le_of_ble_eq_true rfl) dX5_seaAt_9 ⟨Nat.zero_le _, Nat.zero_le _⟩ (fun z2 e2 => ?_)
  have e2 : z2.toInt = waveZ (τ.2.1 (1 : Int).toNat) h := e2
  have e2 : z2.toInt = waveZ (τ.2.1 1) h := by rw [e2]; rfl
  refine z_iadd hx hb e1 e2 dX5_seaAt_12 (by omega) (fun z3 e3 => ?_)
  refine lv_aload_n hx hb dX5_seaAt_13 rfl (lv_at hl 0 rfl) ?_
  refine lv_iconst (v := (2 : Int32)) hx hb dX5_seaAt_14 (by decide) ?_
  refine lv_iload_n hx hb dX5_seaAt_15 rfl (lv_at hl 1 rfl) ?_
  refine z_cV (As := [.int (2 : Int32), .int y]) (rest := [.int z3]) ⟨hx, hb, hml, hown, hts⟩ (kX5_waveAt l G o μ (2 : Int32) (2 : Int) kI_2 y h e_y τ (by first | assumption | omega) (by first | assumption | omega) (by first | assumption | omega)) (cwV 2 hts gX5_seaAt_X5_waveAt rfl rfl rfl hyX5_waveAt ⟨Nat.le_of_ble_eq_true rfl, Nat.le_of_ble_eq_true rfl⟩) hK hM hM.1 rfl rfl hl.1 rfl (Nat.le_of_ble_eq_true rfl) dX5_seaAt_16 ⟨Nat.zero_le _, Nat.zero_le _⟩ (fun z4 e4 => ?_)
  have e4 : z4.toInt = waveZ (τ.2.1 (2 : Int).toNat) h := e4
  have e4 : z4.toInt = waveZ (τ.2.1 2) h := by rw [e4]; rfl
  refine z_iadd hx hb e3 e4 dX5_seaAt_19 (by omega) (fun z5 e5 => ?_)
  exact z_ri (v := z5) hx hb hr hlocks (show z5.toInt = seaZ τ.2.1 h from (by rw [e5]; show _ = 0 + waveZ (τ.2.1 0) h + waveZ (τ.2.1 1) h + waveZ (τ.2.1 2) h; omega)) dX5_seaAt_20

abbrev rmX5_outsideAt : Room := { frames := 2, cells := 0, slots := 0, locals := 47 }
theorem iwX5_outsideAt_5 : ∀ w ∈ wsX50, w ∈ wsX5_outsideAt := fun _ h => List.mem_cons_of_mem _ (List.mem_append_right _ h)
theorem flX5_outsideAt_7 : Cond.fieldLink RX5 7 "SiltedFloatsModel" "s" "[I" ∈ wsX5_outsideAt := by decide +kernel
theorem hyX5_outsideAt : yX5_outsideAt.cls = RX5 ∧ yX5_outsideAt.cls ≠ "java/lang/invoke/MethodHandle" ∧ yX5_outsideAt.cls ≠ "java/lang/invoke/VarHandle" ∧ (parseMethodDescriptor yX5_outsideAt.desc).map (fun d => d.parameters.length) = some 2 := by decide +kernel
set_option maxHeartbeats 4000000 in
set_option maxRecDepth 100000 in
theorem kX5_outsideAt (l : Launch) (G : xG) (o : Nat) (μ : MD) (x : Int32) (t : Int) (e_x : x.toInt = t) (y : Int32) (h : Int) (e_y : y.toInt = h) (τ : SD) (hW : Rw τ μ.2.1) (hwo : ∀ i, i < 3 → waveOk (τ.2.1 i)) (ht : 0 ≤ t ∧ t < 3) (hgo : staOk (τ.2.2 t.toNat)) (hh : 0 ≤ h ∧ h ≤ 500) : Met l yX5_outsideAt wsX5_outsideAt rmX5_outsideAt (va_Pc [.ref o, .int x, .int y] (zPre G (fun H => MO G H o μ))) (zS (fun v => v.toInt = watZ τ.2.1 (τ.2.2 t.toNat) h)) 0 0 zno := by
  refine z_ofW (cc := cX5_outsideAt) (maxL := 3) (ret := some .int) (by decide +kernel) rfl (Nat.le_of_ble_eq_true rfl) ?_
  intro p e s m below meth c hx hb hml hr hts hown hlocks hK hP ls hl
  have hM := hP
  have hown : s.vm.findClass RX5 = some m.cls := hown
  have hl : lv_has ls 3 [(0, .ref o), (1, .int x), (2, .int y)] := hl
  have hg1 := id hgo
  unfold staOk at hg1
  have hwp := watZ_p hwo hgo (h - ((τ.2.2 t.toNat).1 0).toInt)
  have hwb := watZ_b hwo hgo h
  obtain ⟨hs0, hs1, hs2⟩ := hW.2 t (by omega) (by omega)
  have hwe : watZ τ.2.1 (τ.2.2 t.toNat) h = ((τ.2.2 t.toNat).1 1).toInt * seaZ τ.2.1 (h - ((τ.2.2 t.toNat).1 0).toInt) / 100 + ((τ.2.2 t.toNat).1 2).toInt := rfl
  refine lv_aload_n hx hb dX5_outsideAt_0 rfl (lv_at hl 0 rfl) ?_
  refine z_get hx hb hts iwX5_outsideAt_5 hown hK hM.1 rfl 0 (by decide) flX5_outsideAt_7 rfl (v := .ref (o + 1)) rfl dX5_outsideAt_1 ?_
  refine lv_iload_n hx hb dX5_outsideAt_4 rfl (lv_at hl 1 rfl) ?_
  refine lv_iconst (v := (1 : Int32)) hx hb dX5_outsideAt_5 (by decide) ?_
  refine z_cS (As := [.int x, .int (1 : Int32)]) (rest := [.ref (o + 1)]) ⟨hx, hb, hml, hown, hts⟩ (kX5_of l G x t e_x (1 : Int32) (1 : Int) kI_1 (by first | assumption | omega)) (va_cwS 2 hts gX5_outsideAt_X5_of rfl rfl rfl hyX5_of ⟨Nat.le_of_ble_eq_true rfl, Nat.le_of_ble_eq_true rfl⟩) hK trivial rfl hl.1 rfl (Nat.le_of_ble_eq_true rfl) dX5_outsideAt_6 ⟨Nat.zero_le _, Nat.zero_le _⟩ (fun z1 e1 => ?_)
  have e1 : z1.toInt = 10 + 731 * t + (1 : Int) := e1
  refine z_iald (f := μ.2.1) hx hb hK 0 hM.2.1 rfl e1 (by omega) dX5_outsideAt_9 ?_
  have hcl2 : (μ.2.1 (10 + 731 * t + (1 : Int)).toNat).toInt = ((τ.2.2 t.toNat).1 1).toInt := hs1
  refine lv_aload_n hx hb dX5_outsideAt_10 rfl (lv_at hl 0 rfl) ?_
  refine lv_iload_n hx hb dX5_outsideAt_11 rfl (lv_at hl 2 rfl) ?_
  refine lv_aload_n hx hb dX5_outsideAt_12 rfl (lv_at hl 0 rfl) ?_
  refine z_get hx hb hts iwX5_outsideAt_5 hown hK hM.1 rfl 0 (by decide) flX5_outsideAt_7 rfl (v := .ref (o + 1)) rfl dX5_outsideAt_13 ?_
  refine lv_iload_n hx hb dX5_outsideAt_16 rfl (lv_at hl 1 rfl) ?_
  refine lv_iconst (v := (0 : Int32)) hx hb dX5_outsideAt_17 (by decide) ?_
  refine z_cS (As := [.int x, .int (0 : Int32)]) (rest := [.ref (o + 1), .int y, .ref o, .int (μ.2.1 (10 + 731 * t + (1 : Int)).toNat)]) ⟨hx, hb, hml, hown, hts⟩ (kX5_of l G x t e_x (0 : Int32) (0 : Int) kI_0 (by first | assumption | omega)) (va_cwS 2 hts gX5_outsideAt_X5_of rfl rfl rfl hyX5_of ⟨Nat.le_of_ble_eq_true rfl, Nat.le_of_ble_eq_true rfl⟩) hK trivial rfl hl.1 rfl (Nat.le_of_ble_eq_true rfl) dX5_outsideAt_18 ⟨Nat.zero_le _, Nat.zero_le _⟩ (fun z3 e3 => ?_)
  have e3 : z3.toInt = 10 + 731 * t + (0 : Int) := e3
  refine z_iald (f := μ.2.1) hx hb hK 0 hM.2.1 rfl e3 (by omega) dX5_outsideAt_21 ?_
  have hcl4 : (μ.2.1 (10 + 731 * t + (0 : Int)).toNat).toInt = ((τ.2.2 t.toNat).1 0).toInt := hs0
  refine z_isub hx hb e_y hcl4 dX5_outsideAt_22 (by omega) (fun z5 e5 => ?_)
  refine z_cV (As := [.int z5]) (rest := [.int (μ.2.1 (10 + 731 * t + (1 : Int)).toNat)]) ⟨hx, hb, hml, hown, hts⟩ (kX5_seaAt l G o μ z5 (h - (((τ.2.2 t.toNat).1 0).toInt)) e5 τ (by first | assumption | omega) (by first | assumption | omega) (by first | assumption | omega)) (cwV 1 hts gX5_outsideAt_X5_seaAt rfl rfl rfl hyX5_seaAt ⟨Nat.le_of_ble_eq_true rfl, Nat.le_of_ble_eq_true rfl⟩) hK hM hM.1 rfl rfl hl.1 rfl (Nat.le_of_ble_eq_true rfl) dX5_outsideAt_23 ⟨Nat.zero_le _, Nat.zero_le _⟩ (fun z6 e6 => ?_)
  have e6 : z6.toInt = seaZ τ.2.1 (h - (((τ.2.2 t.toNat).1 0).toInt)) := e6
  refine z_imul hx hb hcl2 e6 dX5_outsideAt_26 (by omega) (fun z7 e7 => ?_)
  refine lv_bipush (v := (100 : Int32)) hx hb dX5_outsideAt_27 (by decide) ?_
  refine z_cS (As := [.int z7, .int (100 : Int32)]) (rest := []) ⟨hx, hb, hml, hown, hts⟩ (kX5_divide l G z7 ((((τ.2.2 t.toNat).1 1).toInt) * (seaZ τ.2.1 (h - (((τ.2.2 t.toNat).1 0).toInt)))) e7 (100 : Int32) (100 : Int) kI_100 (by first | assumption | omega)) (va_cwS 2 hts gX5_outsideAt_X5_divide rfl rfl rfl hyX5_divide ⟨Nat.le_of_ble_eq_true rfl, Nat.le_of_ble_eq_true rfl⟩) hK trivial rfl hl.1 rfl (Nat.le_of_ble_eq_true rfl) dX5_outsideAt_29 ⟨Nat.zero_le _, Nat.zero_le _⟩ (fun z8 e8 => ?_)
  have e8 : z8.toInt = ((((τ.2.2 t.toNat).1 1).toInt) * (seaZ τ.2.1 (h - (((τ.2.2 t.toNat).1 0).toInt)))) / (100 : Int) := e8
  refine lv_aload_n hx hb dX5_outsideAt_32 rfl (lv_at hl 0 rfl) ?_
  refine z_get hx hb hts iwX5_outsideAt_5 hown hK hM.1 rfl 0 (by decide) flX5_outsideAt_7 rfl (v := .ref (o + 1)) rfl dX5_outsideAt_33 ?_
  refine lv_iload_n hx hb dX5_outsideAt_36 rfl (lv_at hl 1 rfl) ?_
  refine lv_iconst (v := (2 : Int32)) hx hb dX5_outsideAt_37 (by decide) ?_
  refine z_cS (As := [.int x, .int (2 : Int32)]) (rest := [.ref (o + 1), .int z8]) ⟨hx, hb, hml, hown, hts⟩ (kX5_of l G x t e_x (2 : Int32) (2 : Int) kI_2 (by first | assumption | omega)) (va_cwS 2 hts gX5_outsideAt_X5_of rfl rfl rfl hyX5_of ⟨Nat.le_of_ble_eq_true rfl, Nat.le_of_ble_eq_true rfl⟩) hK trivial rfl hl.1 rfl (Nat.le_of_ble_eq_true rfl) dX5_outsideAt_38 ⟨Nat.zero_le _, Nat.zero_le _⟩ (fun z9 e9 => ?_)
  have e9 : z9.toInt = 10 + 731 * t + (2 : Int) := e9
  refine z_iald (f := μ.2.1) hx hb hK 0 hM.2.1 rfl e9 (by omega) dX5_outsideAt_41 ?_
  have hcl10 : (μ.2.1 (10 + 731 * t + (2 : Int)).toNat).toInt = ((τ.2.2 t.toNat).1 2).toInt := hs2
  refine z_iadd hx hb e8 hcl10 dX5_outsideAt_42 (by omega) (fun z11 e11 => ?_)
  exact z_ri (v := z11) hx hb hr hlocks (show z11.toInt = watZ τ.2.1 (τ.2.2 t.toNat) h from (by rw [e11]; rfl)) dX5_outsideAt_43
