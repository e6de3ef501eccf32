abbrev rmX5_sum : Room := { frames := 1, cells := 0, slots := 0, locals := 21 }
theorem iwX5_sum_5 : ∀ w ∈ wsX50, w ∈ wsX5_sum := fun _ h => List.mem_cons_of_mem _ (List.mem_append_right _ h)
theorem flX5_sum_7 : Cond.fieldLink RX5 7 "SiltedFloatsModel" "s" "[I" ∈ wsX5_sum := by decide +kernel
theorem hyX5_sum : yX5_sum.cls = RX5 ∧ yX5_sum.cls ≠ "java/lang/invoke/MethodHandle" ∧ yX5_sum.cls ≠ "java/lang/invoke/VarHandle" ∧ (parseMethodDescriptor yX5_sum.desc).map (fun d => d.parameters.length) = some 2 := by decide +kernel
set_option maxHeartbeats 4000000 in
set_option maxRecDepth 100000 in
theorem kX5_sum (l : Launch) (G : xG) (o : Nat) (μ : MD) (x : Int32) (t : Int) (e_x : x.toInt = t) (y : Int32) (k : Int) (e_y : y.toInt = k) (ht : 0 ≤ t ∧ t < 3) (hk9 : 0 ≤ k ∧ k ≤ 610) (hn : 0 ≤ (μ.2.1 (0 : Int).toNat).toInt ∧ (μ.2.1 (0 : Int).toNat).toInt ≤ 120) (hc : ∀ h : Int, 0 ≤ h → h < 120 → 0 ≤ cR μ.2.1 t (k + h) ∧ cR μ.2.1 t (k + h) ≤ 1) : Met l yX5_sum wsX5_sum rmX5_sum (va_Pc [.ref o, .int x, .int y] (zPre G (fun H => MO G H o μ))) (zS (fun v => v.toInt = sumZ (fun h => cR μ.2.1 t (k + h)) 0 ((μ.2.1 (0 : Int).toNat).toInt).toNat)) 0 0 zno := by
  refine z_ofW (cc := cX5_sum) (maxL := 5) (ret := some .int) (by decide +kernel) rfl (Nat.le_of_ble_eq_true rfl) ?_
  intro p e s m below meth c hx hb hml hr hts hown hlocks hK hP ls hl
  have hM := hP
  have hown : s.vm.findClass RX5 = some m.cls := hown
  have hl : lv_has ls 5 [(0, .ref o), (1, .int x), (2, .int y)] := hl
  have cut5 : ∀ (n5 : Nat), ∀ (x3 : Int32) (i3 : Int) (_ : x3.toInt = i3) (x4 : Int32) (i4 : Int) (_ : x4.toInt = i4), ((μ.2.1 (0 : Int).toNat).toInt - i4).toNat < n5 → (0 ≤ i4 ∧ i4 ≤ (μ.2.1 (0 : Int).toNat).toInt) → (i3 = sumZ (fun h => cR μ.2.1 t (k + h)) 0 (i4 - 0).toNat) → (0 ≤ i3 ∧ i3 ≤ i4) → ∀ ls : Array Slot, lv_has ls 5 [(0, .ref o), (1, .int x), (2, .int y), (3, .int x3), (4, .int x4)] → W p l e rmX5_sum s m ([.ref o, .int x, .int y] : List Value).toArray below meth c s.heap [] 0 0 (MQ below (zS (fun v => v.toInt = sumZ (fun h => cR μ.2.1 t (k + h)) 0 ((μ.2.1 (0 : Int).toNat).toInt).toNat)) ([.ref o, .int x, .int y] : List Value).toArray s 0 0 zno) (F0 m 5 ls []) := by
    intro n5
    induction n5 with
    | zero =>
      intro x3 i3 hx3 x4 i4 hx4 hmu5 hi5_0 hi5_1 hi5_2 ls hl
      exact absurd hmu5 (Nat.not_lt_zero _)
    | succ n5 ih5 =>
      intro x3 i3 hx3 x4 i4 hx4 hmu5 hi5_0 hi5_1 hi5_2 ls hl
      refine lv_iload hx hb dX5_sum_5 (lv_at hl 4 rfl) ?_
      refine lv_aload_n hx hb dX5_sum_7 rfl (lv_at hl 0 rfl) ?_
      refine z_get hx hb hts iwX5_sum_5 hown hK hM.1 rfl 0 (by decide) flX5_sum_7 rfl (v := .ref (o + 1)) rfl dX5_sum_8 ?_
      refine lv_iconst (v := (0 : Int32)) hx hb dX5_sum_11 (by decide) ?_
      refine z_iald (f := μ.2.1) hx hb hK 0 hM.2.1 rfl kI_0 (by omega) dX5_sum_12 ?_
      refine z_icmp_ge (tgt := 38) hx hb hx4 rfl dX5_sum_13 (by decide) (fun c_1 => ?_) (fun c_1 => ?_)
      · refine lv_iload_n hx hb dX5_sum_38 rfl (lv_at hl 3 rfl) ?_
        exact z_ri (v := x3) hx hb hr hlocks (show x3.toInt = sumZ (fun h => cR μ.2.1 t (k + h)) 0 ((μ.2.1 (0 : Int).toNat).toInt).toNat from (by rw [hx3, hi5_1]; congr 1; omega)) dX5_sum_39
      · have hc9 : 0 ≤ (μ.2.1 (10 + 731 * t + (k + i4)).toNat).toInt ∧ (μ.2.1 (10 + 731 * t + (k + i4)).toNat).toInt ≤ 1 := hc i4 (by omega) (by omega)
        refine lv_iload_n hx hb dX5_sum_16 rfl (lv_at hl 3 rfl) ?_
        refine lv_aload_n hx hb dX5_sum_17 rfl (lv_at hl 0 rfl) ?_
        refine z_get hx hb hts iwX5_sum_5 hown hK hM.1 rfl 0 (by decide) flX5_sum_7 rfl (v := .ref (o + 1)) rfl dX5_sum_18 ?_
        refine lv_iload_n hx hb dX5_sum_21 rfl (lv_at hl 1 rfl) ?_
        refine lv_iload_n hx hb dX5_sum_22 rfl (lv_at hl 2 rfl) ?_
        refine lv_iload hx hb dX5_sum_23 (lv_at hl 4 rfl) ?_
        refine z_iadd hx hb e_y hx4 dX5_sum_25 (by omega) (fun z2 e2 => ?_)
        refine z_cS (As := [.int x, .int z2]) (rest := [.ref (o + 1), .int x3]) ⟨hx, hb, hml, hown, hts⟩ (kX5_of l G x t e_x z2 (k + i4) e2 (by first | assumption | omega)) (va_cwS 2 hts gX5_sum_X5_of rfl rfl rfl hyX5_of ⟨Nat.le_of_ble_eq_true rfl, Nat.le_of_ble_eq_true rfl⟩) hK trivial rfl hl.1 rfl (Nat.le_of_ble_eq_true rfl) dX5_sum_26 ⟨Nat.zero_le _, Nat.zero_le _⟩ (fun z3 e3 => ?_)
        have e3 : z3.toInt = 10 + 731 * t + (k + i4) := e3
        refine z_iald (f := μ.2.1) hx hb hK 0 hM.2.1 rfl e3 (by omega) dX5_sum_29 ?_
        refine z_iadd hx hb hx3 rfl dX5_sum_30 (by omega) (fun z4 e4 => ?_)
        refine lv_istore_n hx hb dX5_sum_31 rfl hl (by decide) rfl (fun ls hl => ?_)
        have hl : lv_has ls 5 [(3, .int z4), (0, .ref o), (1, .int x), (2, .int y), (4, .int x4)] := hl
        refine z_iinc (k := 4) hx hb dX5_sum_32 hl rfl hx4 (show (Int32.ofInt 1).toInt = (1 : Int) from rfl) (by omega) (by decide) (fun z5 e5 ls hl => ?_)
        have hl : lv_has ls 5 [(4, .int z5), (3, .int z4), (0, .ref o), (1, .int x), (2, .int y)] := hl
        refine lv_goto (tgt := 5) hx hb dX5_sum_35 (by decide) ?_
        exact ih5 z4 (i3 + ((μ.2.1 (10 + 731 * t + (k + i4)).toNat).toInt)) e4 z5 (i4 + (1 : Int)) e5 (by omega) (by omega) (by rw [sumZ_s (by omega), hi5_1]) (by omega) ls (lv_sub hl [2, 3, 4, 1, 0] rfl)
  refine lv_iconst (v := (0 : Int32)) hx hb dX5_sum_0 (by decide) ?_
  refine lv_istore_n hx hb dX5_sum_1 rfl hl (by decide) rfl (fun ls hl => ?_)
  have hl : lv_has ls 5 [(3, .int (0 : Int32)), (0, .ref o), (1, .int x), (2, .int y)] := hl
  refine lv_iconst (v := (0 : Int32)) hx hb dX5_sum_2 (by decide) ?_
  refine lv_istore hx hb dX5_sum_3 hl (by decide) rfl (fun ls hl => ?_)
  have hl : lv_has ls 5 [(4, .int (0 : Int32)), (3, .int (0 : Int32)), (0, .ref o), (1, .int x), (2, .int y)] := hl
  exact cut5 ((((μ.2.1 (0 : Int).toNat).toInt - (0 : Int)).toNat) + 1) (0 : Int32) (0 : Int) kI_0 (0 : Int32) (0 : Int) kI_0 (Nat.lt_succ_self _) (by omega) rfl (by omega) ls (lv_sub hl [2, 3, 4, 1, 0] rfl)

abbrev rmX5_isRead : Room := { frames := 1, cells := 0, slots := 0, locals := 22 }
theorem iwX5_isRead_5 : ∀ w ∈ wsX50, w ∈ wsX5_isRead := fun _ h => List.mem_cons_of_mem _ (List.mem_append_right _ h)
theorem flX5_isRead_7 : Cond.fieldLink RX5 7 "SiltedFloatsModel" "s" "[I" ∈ wsX5_isRead := by decide +kernel
theorem hyX5_isRead : yX5_isRead.cls = RX5 ∧ yX5_isRead.cls ≠ "java/lang/invoke/MethodHandle" ∧ yX5_isRead.cls ≠ "java/lang/invoke/VarHandle" ∧ (parseMethodDescriptor yX5_isRead.desc).map (fun d => d.parameters.length) = some 2 := by decide +kernel
set_option maxHeartbeats 4000000 in
set_option maxRecDepth 100000 in
theorem kX5_isRead (l : Launch) (G : xG) (o : Nat) (μ : MD) (x : Int32) (t : Int) (e_x : x.toInt = t) (y : Int32) (h : Int) (e_y : y.toInt = h) (τ : SD) (hR : Rs τ μ.2.1) (hok : stOk τ) (ht : 0 ≤ t ∧ t < 3) (hh : -1000000 ≤ h ∧ h ≤ 1000000) : Met l yX5_isRead wsX5_isRead rmX5_isRead (va_Pc [.ref o, .int x, .int y] (zPre G (fun H => MO G H o μ))) (zS (fun v => isB v (kindZ (τ.2.2 t.toNat) h = 0))) 0 0 zno := by
  refine z_ofW (cc := cX5_isRead) (maxL := 3) (ret := some .boolean) (by decide +kernel) rfl (Nat.le_of_ble_eq_true rfl) ?_
  intro p e s m below meth c hx hb hml hr hts hown hlocks hK hP ls hl
  have hM := hP
  have hown : s.vm.findClass RX5 = some m.cls := hown
  have hl : lv_has ls 3 [(0, .ref o), (1, .int x), (2, .int y)] := hl
  have hn0 := hR.1
  have hok1 := hok.1
  have hgo := hok.2.2 t.toNat (by omega)
  refine lv_iload_n hx hb dX5_isRead_0 rfl (lv_at hl 2 rfl) ?_
  refine lv_iconst (v := (0 : Int32)) hx hb dX5_isRead_1 (by decide) ?_
  refine lv_aload_n hx hb dX5_isRead_2 rfl (lv_at hl 0 rfl) ?_
  refine z_get hx hb hts iwX5_isRead_5 hown hK hM.1 rfl 0 (by decide) flX5_isRead_7 rfl (v := .ref (o + 1)) rfl dX5_isRead_3 ?_
  refine lv_iconst (v := (0 : Int32)) hx hb dX5_isRead_6 (by decide) ?_
  refine z_iald (f := μ.2.1) hx hb hK 0 hM.2.1 rfl kI_0 (by omega) dX5_isRead_7 ?_
  have hcl1 : (μ.2.1 (0 : Int).toNat).toInt = τ.1.toInt := hn0
  refine lv_iconst (v := (1 : Int32)) hx hb dX5_isRead_8 (by decide) ?_
  refine z_isub hx hb hcl1 kI_1 dX5_isRead_9 (by omega) (fun z2 e2 => ?_)
  refine z_cS (As := [.int y, .int (0 : Int32), .int z2]) (rest := []) ⟨hx, hb, hml, hown, hts⟩ (kX5_in l G y h e_y (0 : Int32) (0 : Int) kI_0 z2 (τ.1.toInt - (1 : Int)) e2) (va_cwS 3 hts gX5_isRead_X5_in rfl rfl rfl hyX5_in ⟨Nat.le_of_ble_eq_true rfl, Nat.le_of_ble_eq_true rfl⟩) hK trivial rfl hl.1 rfl (Nat.le_of_ble_eq_true rfl) dX5_isRead_10 ⟨Nat.zero_le _, Nat.zero_le _⟩ (fun z3 e3 => ?_)
  have e3 : isB z3 ((0 : Int) ≤ h ∧ h ≤ (τ.1.toInt - (1 : Int))) := e3
  refine z_ifb_eq (tgt := 38) hx hb e3 dX5_isRead_13 (by decide) (fun c_4 => ?_) (fun c_4 => ?_)
  · refine lv_iconst (v := (0 : Int32)) hx hb dX5_isRead_38 (by decide) ?_
    exact z_rb (v := (0 : Int32)) hx hb hr hlocks rfl (isB.f rfl (by first | exact if_n1 (by assumption) | (intro q; have hq := (kindZ_in hgo (by omega) q).1; omega))) dX5_isRead_39
  · refine lv_aload_n hx hb dX5_isRead_16 rfl (lv_at hl 0 rfl) ?_
    refine z_get hx hb hts iwX5_isRead_5 hown hK hM.1 rfl 0 (by decide) flX5_isRead_7 rfl (v := .ref (o + 1)) rfl dX5_isRead_17 ?_
    refine lv_iload_n hx hb dX5_isRead_20 rfl (lv_at hl 1 rfl) ?_
    refine lv_sipush (v := (129 : Int32)) hx hb dX5_isRead_21 (by decide) ?_
    refine lv_iload_n hx hb dX5_isRead_24 rfl (lv_at hl 2 rfl) ?_
    refine z_iadd hx hb kI_129 e_y dX5_isRead_25 (by omega) (fun z5 e5 => ?_)
    refine z_cS (As := [.int x, .int z5]) (rest := [.ref (o + 1)]) ⟨hx, hb, hml, hown, hts⟩ (kX5_of l G x t e_x z5 ((129 : Int) + h) e5 (by first | assumption | omega)) (va_cwS 2 hts gX5_isRead_X5_of rfl rfl rfl hyX5_of ⟨Nat.le_of_ble_eq_true rfl, Nat.le_of_ble_eq_true rfl⟩) hK trivial rfl hl.1 rfl (Nat.le_of_ble_eq_true rfl) dX5_isRead_26 ⟨Nat.zero_le _, Nat.zero_le _⟩ (fun z6 e6 => ?_)
    have e6 : z6.toInt = 10 + 731 * t + ((129 : Int) + h) := e6
    refine z_iald (f := μ.2.1) hx hb hK 0 hM.2.1 rfl e6 (by omega) dX5_isRead_29 ?_
    have hcl7 : (μ.2.1 (10 + 731 * t + ((129 : Int) + h)).toNat).toInt = (if kindZ (τ.2.2 t.toNat) h = 0 then (1 : Int) else 0) := (hR.rd ht (by omega)).1
    refine lv_iconst (v := (1 : Int32)) hx hb dX5_isRead_30 (by decide) ?_
    refine z_icmp_ne (tgt := 38) hx hb hcl7 kI_1 dX5_isRead_31 (by decide) (fun c_8 => ?_) (fun c_8 => ?_)
    · refine lv_iconst (v := (0 : Int32)) hx hb dX5_isRead_38 (by decide) ?_
      exact z_rb (v := (0 : Int32)) hx hb hr hlocks rfl (isB.f rfl (by first | exact if_n1 (by assumption) | (intro q; have hq := (kindZ_in hgo (by omega) q).1; omega))) dX5_isRead_39
    · refine lv_iconst (v := (1 : Int32)) hx hb dX5_isRead_34 (by decide) ?_
      refine lv_goto (tgt := 39) hx hb dX5_isRead_35 (by decide) ?_
      exact z_rb (v := (1 : Int32)) hx hb hr hlocks rfl (isB.t rfl (if_1 (by assumption))) dX5_isRead_39

abbrev rmX5_correction : Room := { frames := 1, cells := 0, slots := 0, locals := 21 }
theorem iwX5_correction_5 : ∀ w ∈ wsX50, w ∈ wsX5_correction := fun _ h => List.mem_cons_of_mem _ (List.mem_append_right _ h)
theorem flX5_correction_7 : Cond.fieldLink RX5 7 "SiltedFloatsModel" "s" "[I" ∈ wsX5_correction := by decide +kernel
theorem hyX5_correction : yX5_correction.cls = RX5 ∧ yX5_correction.cls ≠ "java/lang/invoke/MethodHandle" ∧ yX5_correction.cls ≠ "java/lang/invoke/VarHandle" ∧ (parseMethodDescriptor yX5_correction.desc).map (fun d => d.parameters.length) = some 2 := by decide +kernel
set_option maxHeartbeats 4000000 in
set_option maxRecDepth 100000 in
theorem kX5_correction (l : Launch) (G : xG) (o : Nat) (μ : MD) (x : Int32) (t : Int) (e_x : x.toInt = t) (y : Int32) (h : Int) (e_y : y.toInt = h) (d : GD) (n : Int) (hG : Rg (fun w => cR μ.2.1 t w) d n) (hgo : gaugeOk d n) (hnb : 0 ≤ n ∧ n ≤ 120) (ht : 0 ≤ t ∧ t < 3) (hh : 0 ≤ h ∧ h < n) : Met l yX5_correction wsX5_correction rmX5_correction (va_Pc [.ref o, .int x, .int y] (zPre G (fun H => MO G H o μ))) (zS (fun v => v.toInt = corrZ d h)) 0 0 zno := by
  refine z_ofW (cc := cX5_correction) (maxL := 6) (ret := some .int) (by decide +kernel) rfl (Nat.le_of_ble_eq_true rfl) ?_
  intro p e s m below meth c hx hb hml hr hts hown hlocks hK hP ls hl
  have hM := hP
  have hown : s.vm.findClass RX5 = some m.cls := hown
  have hl : lv_has ls 6 [(0, .ref o), (1, .int x), (2, .int y)] := hl
  have hnn := hG.2.2
  obtain ⟨⟨hn1, hn2, hn3, hn4, hn5, hn6⟩, hn7, hn8, hn9, hn10⟩ := id hnn
  have hL := hgo.2.2.2.1.2.2
  have cut2 : ∀ (n2 : Nat), ∀ (x3 : Int32) (i3 : Int) (_ : x3.toInt = i3), (i3 + 1).toNat < n2 → (0 ≤ i3 ∧ i3 ≤ h) → (∀ j : Int, i3 < j → j ≤ h → cR μ.2.1 t (610 + j) = 0) → ∀ ls : Array Slot, lv_has ls 6 [(0, .ref o), (1, .int x), (2, .int y), (3, .int x3)] → W p l e rmX5_correction s m ([.ref o, .int x, .int y] : List Value).toArray below meth c s.heap [] 0 0 (MQ below (zS (fun v => v.toInt = corrZ d h)) ([.ref o, .int x, .int y] : List Value).toArray s 0 0 zno) (F0 m 2 ls []) := by
    intro n2
    induction n2 with
    | zero =>
      intro x3 i3 hx3 hmu2 hi2_0 hi2_1 ls hl
      exact absurd hmu2 (Nat.not_lt_zero _)
    | succ n2 ih2 =>
      intro x3 i3 hx3 hmu2 hi2_0 hi2_1 ls hl
      have hm1 : cR μ.2.1 t (610 + i3) = 0 ∨ cR μ.2.1 t (610 + i3) = 1 := hn1 i3 (by omega) (by omega)
      have hm2 : cR μ.2.1 t (610 + 0) = 1 := hn2
      refine lv_aload_n hx hb dX5_correction_2 rfl (lv_at hl 0 rfl) ?_
      refine z_get hx hb hts iwX5_correction_5 hown hK hM.1 rfl 0 (by decide) flX5_correction_7 rfl (v := .ref (o + 1)) rfl dX5_correction_3 ?_
      refine lv_iload_n hx hb dX5_correction_6 rfl (lv_at hl 1 rfl) ?_
      refine lv_sipush (v := (610 : Int32)) hx hb dX5_correction_7 (by decide) ?_
      refine lv_iload_n hx hb dX5_correction_10 rfl (lv_at hl 3 rfl) ?_
      refine z_iadd hx hb kI_610 hx3 dX5_correction_11 (by omega) (fun z1 e1 => ?_)
      refine z_cS (As := [.int x, .int z1]) (rest := [.ref (o + 1)]) ⟨hx, hb, hml, hown, hts⟩ (kX5_of l G x t e_x z1 ((610 : Int) + i3) e1 (by first | assumption | omega)) (va_cwS 2 hts gX5_correction_X5_of rfl rfl rfl hyX5_of ⟨Nat.le_of_ble_eq_true rfl, Nat.le_of_ble_eq_true rfl⟩) hK trivial rfl hl.1 rfl (Nat.le_of_ble_eq_true rfl) dX5_correction_12 ⟨Nat.zero_le _, Nat.zero_le _⟩ (fun z2 e2 => ?_)
      have e2 : z2.toInt = 10 + 731 * t + ((610 : Int) + i3) := e2
      refine z_iald (f := μ.2.1) hx hb hK 0 hM.2.1 rfl e2 (by omega) dX5_correction_15 ?_
      refine z_if_ne (tgt := 25) hx hb rfl dX5_correction_16 (by decide) (fun c_3 => ?_) (fun c_3 => ?_)
      · have hm3 := hm1.resolve_left c_3
        refine lv_iload_n hx hb dX5_correction_25 rfl (lv_at hl 2 rfl) ?_
        refine lv_iconst (v := (1 : Int32)) hx hb dX5_correction_26 (by decide) ?_
        refine z_iadd hx hb e_y kI_1 dX5_correction_27 (by omega) (fun z4 e4 => ?_)
        refine lv_istore hx hb dX5_correction_28 hl (by decide) rfl (fun ls hl => ?_)
        have hl : lv_has ls 6 [(4, .int z4), (0, .ref o), (1, .int x), (2, .int y), (3, .int x3)] := hl
        have cut30 : ∀ (n30 : Nat), ∀ (x3 : Int32) (i3 : Int) (_ : x3.toInt = i3) (x4 : Int32) (i4 : Int) (_ : x4.toInt = i4), (121 - i4).toNat < n30 → (0 ≤ i3 ∧ i3 ≤ h) → (∀ j : Int, i3 < j → j ≤ h → cR μ.2.1 t (610 + j) = 0) → (cR μ.2.1 t (610 + i3) = 1) → (h < i4 ∧ i4 ≤ 121) → (∀ j : Int, h < j → j < i4 → cR μ.2.1 t (610 + j) = 0) → ∀ ls : Array Slot, lv_has ls 6 [(0, .ref o), (1, .int x), (2, .int y), (3, .int x3), (4, .int x4)] → W p l e rmX5_correction s m ([.ref o, .int x, .int y] : List Value).toArray below meth c s.heap [] 0 0 (MQ below (zS (fun v => v.toInt = corrZ d h)) ([.ref o, .int x, .int y] : List Value).toArray s 0 0 zno) (F0 m 30 ls []) := by
          intro n30
          induction n30 with
          | zero =>
            intro x3 i3 hx3 x4 i4 hx4 hmu30 hi30_0 hi30_1 hi30_2 hi30_3 hi30_4 ls hl
            exact absurd hmu30 (Nat.not_lt_zero _)
          | succ n30 ih30 =>
            intro x3 i3 hx3 x4 i4 hx4 hmu30 hi30_0 hi30_1 hi30_2 hi30_3 hi30_4 ls hl
            refine lv_iload hx hb dX5_correction_30 (lv_at hl 4 rfl) ?_
            refine lv_bipush (v := (120 : Int32)) hx hb dX5_correction_32 (by decide) ?_
            refine z_icmp_gt (tgt := 61) hx hb hx4 kI_120 dX5_correction_34 (by decide) (fun c_5 => ?_) (fun c_5 => ?_)
            · have hce := cor_end hnn (by omega) (i := i3) (h := h) (by omega) (by omega) hi30_1 hi30_2 (fun j a b => hi30_4 j a (by omega))
              refine lv_aload_n hx hb dX5_correction_61 rfl (lv_at hl 0 rfl) ?_
              refine z_get hx hb hts iwX5_correction_5 hown hK hM.1 rfl 0 (by decide) flX5_correction_7 rfl (v := .ref (o + 1)) rfl dX5_correction_62 ?_
              refine lv_iload_n hx hb dX5_correction_65 rfl (lv_at hl 1 rfl) ?_
              refine lv_sipush (v := (489 : Int32)) hx hb dX5_correction_66 (by decide) ?_
              refine lv_iload_n hx hb dX5_correction_69 rfl (lv_at hl 3 rfl) ?_
              refine z_iadd hx hb kI_489 hx3 dX5_correction_70 (by omega) (fun z6 e6 => ?_)
              refine z_cS (As := [.int x, .int z6]) (rest := [.ref (o + 1)]) ⟨hx, hb, hml, hown, hts⟩ (kX5_of l G x t e_x z6 ((489 : Int) + i3) e6 (by first | assumption | omega)) (va_cwS 2 hts gX5_correction_X5_of rfl rfl rfl hyX5_of ⟨Nat.le_of_ble_eq_true rfl, Nat.le_of_ble_eq_true rfl⟩) hK trivial rfl hl.1 rfl (Nat.le_of_ble_eq_true rfl) dX5_correction_71 ⟨Nat.zero_le _, Nat.zero_le _⟩ (fun z7 e7 => ?_)
              have e7 : z7.toInt = 10 + 731 * t + ((489 : Int) + i3) := e7
              refine z_iald (f := μ.2.1) hx hb hK 0 hM.2.1 rfl e7 (by omega) dX5_correction_74 ?_
              refine lv_istore hx hb dX5_correction_75 hl (by decide) rfl (fun ls hl => ?_)
              have hl : lv_has ls 6 [(5, .int (μ.2.1 (10 + 731 * t + ((489 : Int) + i3)).toNat)), (0, .ref o), (1, .int x), (2, .int y), (3, .int x3), (4, .int x4)] := hl
              refine lv_iload hx hb dX5_correction_77 (lv_at hl 5 rfl) ?_
              refine lv_bipush (v := (120 : Int32)) hx hb dX5_correction_79 (by decide) ?_
              refine z_icmp_le (tgt := 89) hx hb hx4 kI_120 dX5_correction_81 (by decide) (fun c_8 => ?_) (fun c_8 => ?_)
              · omega
              · refine lv_iload hx hb dX5_correction_84 (lv_at hl 0 rfl) ?_
                refine lv_goto (tgt := 121) hx hb dX5_correction_86 (by decide) ?_
                exact z_ri (v := μ.2.1 (10 + 731 * t + ((489 : Int) + i3)).toNat) hx hb hr hlocks (show (μ.2.1 (10 + 731 * t + ((489 : Int) + i3)).toNat).toInt = corrZ d h from hce) dX5_correction_121
            · refine lv_aload_n hx hb dX5_correction_37 rfl (lv_at hl 0 rfl) ?_
              refine z_get hx hb hts iwX5_correction_5 hown hK hM.1 rfl 0 (by decide) flX5_correction_7 rfl (v := .ref (o + 1)) rfl dX5_correction_38 ?_
              refine lv_iload_n hx hb dX5_correction_41 rfl (lv_at hl 1 rfl) ?_
              refine lv_sipush (v := (610 : Int32)) hx hb dX5_correction_42 (by decide) ?_
              refine lv_iload hx hb dX5_correction_45 (lv_at hl 4 rfl) ?_
              refine z_iadd hx hb kI_610 hx4 dX5_correction_47 (by omega) (fun z9 e9 => ?_)
              refine z_cS (As := [.int x, .int z9]) (rest := [.ref (o + 1)]) ⟨hx, hb, hml, hown, hts⟩ (kX5_of l G x t e_x z9 ((610 : Int) + i4) e9 (by first | assumption | omega)) (va_cwS 2 hts gX5_correction_X5_of rfl rfl rfl hyX5_of ⟨Nat.le_of_ble_eq_true rfl, Nat.le_of_ble_eq_true rfl⟩) hK trivial rfl hl.1 rfl (Nat.le_of_ble_eq_true rfl) dX5_correction_48 ⟨Nat.zero_le _, Nat.zero_le _⟩ (fun z10 e10 => ?_)
              have e10 : z10.toInt = 10 + 731 * t + ((610 : Int) + i4) := e10
              refine z_iald (f := μ.2.1) hx hb hK 0 hM.2.1 rfl e10 (by omega) dX5_correction_51 ?_
              refine z_if_ne (tgt := 61) hx hb rfl dX5_correction_52 (by decide) (fun c_11 => ?_) (fun c_11 => ?_)
              · have hk1 := (hn1 i4 (by omega) (by omega)).resolve_left c_11
                have hb1 : 0 ≤ (μ.2.1 (10 + 731 * t + (489 + i3)).toNat).toInt ∧ (μ.2.1 (10 + 731 * t + (489 + i3)).toNat).toInt ≤ 120 := hn9 i3 (by omega) (by omega)
                have hb2 : 0 ≤ (μ.2.1 (10 + 731 * t + (489 + i4)).toNat).toInt ∧ (μ.2.1 (10 + 731 * t + (489 + i4)).toNat).toInt ≤ 120 := hn9 i4 (by omega) (by omega)
                have hmb := mul_b (a := (μ.2.1 (10 + 731 * t + (489 + i4)).toNat).toInt - (μ.2.1 (10 + 731 * t + (489 + i3)).toNat).toInt) (b := h - i3) (A := 120) (B := 120) (by omega) (by omega)
                have hcm : (μ.2.1 (10 + 731 * t + (489 + i3)).toNat).toInt + ((μ.2.1 (10 + 731 * t + (489 + i4)).toNat).toInt - (μ.2.1 (10 + 731 * t + (489 + i3)).toNat).toInt) * (h - i3) / (i4 - i3) = corrZ d h := cor_mid hnn (i := i3) (h := h) (k := i4) (by omega) hi30_1 hi30_2 hi30_4 hk1
                have hcb := hgo.2.2.2.2.2.1
                have hco := corrB hgo h
                refine lv_aload_n hx hb dX5_correction_61 rfl (lv_at hl 0 rfl) ?_
                refine z_get hx hb hts iwX5_correction_5 hown hK hM.1 rfl 0 (by decide) flX5_correction_7 rfl (v := .ref (o + 1)) rfl dX5_correction_62 ?_
                refine lv_iload_n hx hb dX5_correction_65 rfl (lv_at hl 1 rfl) ?_
                refine lv_sipush (v := (489 : Int32)) hx hb dX5_correction_66 (by decide) ?_
                refine lv_iload_n hx hb dX5_correction_69 rfl (lv_at hl 3 rfl) ?_
                refine z_iadd hx hb kI_489 hx3 dX5_correction_70 (by omega) (fun z12 e12 => ?_)
                refine z_cS (As := [.int x, .int z12]) (rest := [.ref (o + 1)]) ⟨hx, hb, hml, hown, hts⟩ (kX5_of l G x t e_x z12 ((489 : Int) + i3) e12 (by first | assumption | omega)) (va_cwS 2 hts gX5_correction_X5_of rfl rfl rfl hyX5_of ⟨Nat.le_of_ble_eq_true rfl, Nat.le_of_ble_eq_true rfl⟩) hK trivial rfl hl.1 rfl (Nat.le_of_ble_eq_true rfl) dX5_correction_71 ⟨Nat.zero_le _, Nat.zero_le _⟩ (fun z13 e13 => ?_)
                have e13 : z13.toInt = 10 + 731 * t + ((489 : Int) + i3) := e13
                refine z_iald (f := μ.2.1) hx hb hK 0 hM.2.1 rfl e13 (by omega) dX5_correction_74 ?_
                refine lv_istore hx hb dX5_correction_75 hl (by decide) rfl (fun ls hl => ?_)
                have hl : lv_has ls 6 [(5, .int (μ.2.1 (10 + 731 * t + ((489 : Int) + i3)).toNat)), (0, .ref o), (1, .int x), (2, .int y), (3, .int x3), (4, .int x4)] := hl
                refine lv_iload hx hb dX5_correction_77 (lv_at hl 5 rfl) ?_
                refine lv_bipush (v := (120 : Int32)) hx hb dX5_correction_79 (by decide) ?_
                refine z_icmp_le (tgt := 89) hx hb hx4 kI_120 dX5_correction_81 (by decide) (fun c_14 => ?_) (fun c_14 => ?_)
                · refine lv_iload hx hb dX5_correction_89 (lv_at hl 0 rfl) ?_
                  refine lv_aload_n hx hb dX5_correction_91 rfl (lv_at hl 1 rfl) ?_
                  refine z_get hx hb hts iwX5_correction_5 hown hK hM.1 rfl 0 (by decide) flX5_correction_7 rfl (v := .ref (o + 1)) rfl dX5_correction_92 ?_
                  refine lv_iload_n hx hb dX5_correction_95 rfl (lv_at hl 2 rfl) ?_
                  refine lv_sipush (v := (489 : Int32)) hx hb dX5_correction_96 (by decide) ?_
                  refine lv_iload hx hb dX5_correction_99 (lv_at hl 5 rfl) ?_
                  refine z_iadd hx hb kI_489 hx4 dX5_correction_101 (by omega) (fun z15 e15 => ?_)
                  refine z_cS (As := [.int x, .int z15]) (rest := [.ref (o + 1), .int (μ.2.1 (10 + 731 * t + ((489 : Int) + i3)).toNat)]) ⟨hx, hb, hml, hown, hts⟩ (kX5_of l G x t e_x z15 ((489 : Int) + i4) e15 (by first | assumption | omega)) (va_cwS 2 hts gX5_correction_X5_of rfl rfl rfl hyX5_of ⟨Nat.le_of_ble_eq_true rfl, Nat.le_of_ble_eq_true rfl⟩) hK trivial rfl hl.1 rfl (Nat.le_of_ble_eq_true rfl) dX5_correction_102 ⟨Nat.zero_le _, Nat.zero_le _⟩ (fun z16 e16 => ?_)
                  have e16 : z16.toInt = 10 + 731 * t + ((489 : Int) + i4) := e16
                  refine z_iald (f := μ.2.1) hx hb hK 0 hM.2.1 rfl e16 (by omega) dX5_correction_105 ?_
                  refine lv_iload hx hb dX5_correction_106 (lv_at hl 0 rfl) ?_
                  refine z_isub hx hb rfl rfl dX5_correction_108 (by omega) (fun z17 e17 => ?_)
                  refine lv_iload_n hx hb dX5_correction_109 rfl (lv_at hl 3 rfl) ?_
                  refine lv_iload_n hx hb dX5_correction_110 rfl (lv_at hl 4 rfl) ?_
                  refine z_isub hx hb e_y hx3 dX5_correction_111 (by omega) (fun z18 e18 => ?_)
                  refine z_imul hx hb e17 e18 dX5_correction_112 (by omega) (fun z19 e19 => ?_)
                  refine lv_iload hx hb dX5_correction_113 (lv_at hl 5 rfl) ?_
                  refine lv_iload_n hx hb dX5_correction_115 rfl (lv_at hl 4 rfl) ?_
                  refine z_isub hx hb hx4 hx3 dX5_correction_116 (by omega) (fun z20 e20 => ?_)
                  refine z_cS (As := [.int z19, .int z20]) (rest := [.int (μ.2.1 (10 + 731 * t + ((489 : Int) + i3)).toNat)]) ⟨hx, hb, hml, hown, hts⟩ (kX5_divide l G z19 ((((μ.2.1 (10 + 731 * t + ((489 : Int) + i4)).toNat).toInt) - ((μ.2.1 (10 + 731 * t + ((489 : Int) + i3)).toNat).toInt)) * (h - i3)) e19 z20 (i4 - i3) e20 (by first | assumption | omega)) (va_cwS 2 hts gX5_correction_X5_divide rfl rfl rfl hyX5_divide ⟨Nat.le_of_ble_eq_true rfl, Nat.le_of_ble_eq_true rfl⟩) hK trivial rfl hl.1 rfl (Nat.le_of_ble_eq_true rfl) dX5_correction_117 ⟨Nat.zero_le _, Nat.zero_le _⟩ (fun z21 e21 => ?_)
                  have e21 : z21.toInt = ((((μ.2.1 (10 + 731 * t + ((489 : Int) + i4)).toNat).toInt) - ((μ.2.1 (10 + 731 * t + ((489 : Int) + i3)).toNat).toInt)) * (h - i3)) / (i4 - i3) := e21
                  refine z_iadd hx hb rfl e21 dX5_correction_120 (by omega) (fun z22 e22 => ?_)
                  exact z_ri (v := z22) hx hb hr hlocks (show z22.toInt = corrZ d h from (by rw [e22]; exact hcm)) dX5_correction_121
                · omega
              · refine z_iinc (k := 4) hx hb dX5_correction_55 hl rfl hx4 (show (Int32.ofInt 1).toInt = (1 : Int) from rfl) (by omega) (by decide) (fun z23 e23 ls hl => ?_)
                have hl : lv_has ls 6 [(4, .int z23), (0, .ref o), (1, .int x), (2, .int y), (3, .int x3)] := hl
                refine lv_goto (tgt := 30) hx hb dX5_correction_58 (by decide) ?_
                exact ih30 x3 i3 hx3 z23 (i4 + (1 : Int)) e23 (by omega) (by omega) hi30_1 hi30_2 (by omega) (zup hi30_4 (by assumption)) ls (lv_sub hl [1, 2, 3, 4, 0] rfl)
        exact cut30 (((121 - (h + (1 : Int))).toNat) + 1) x3 i3 hx3 z4 (h + (1 : Int)) e4 (Nat.lt_succ_self _) (by omega) hi2_1 hm3 (by omega) (fun j a b => by omega) ls (lv_sub hl [1, 2, 3, 4, 0] rfl)
      · have hz3 : i3 ≠ 0 := fun q => by subst q; have h2 : (μ.2.1 (10 + 731 * t + (610 + 0)).toNat).toInt = 1 := hm2; omega
        refine z_iinc (k := 3) hx hb dX5_correction_19 hl rfl hx3 (show (Int32.ofInt (-1)).toInt = (-1 : Int) from rfl) (by omega) (by decide) (fun z24 e24 ls hl => ?_)
        have hl : lv_has ls 6 [(3, .int z24), (0, .ref o), (1, .int x), (2, .int y)] := hl
        refine lv_goto (tgt := 2) hx hb dX5_correction_22 (by decide) ?_
        exact ih2 z24 (i3 + (-1 : Int)) e24 (by omega) (by omega) (zdn hi2_1 (by assumption)) ls (lv_sub hl [1, 2, 3, 0] rfl)
  refine lv_iload_n hx hb dX5_correction_0 rfl (lv_at hl 2 rfl) ?_
  refine lv_istore_n hx hb dX5_correction_1 rfl hl (by decide) rfl (fun ls hl => ?_)
  have hl : lv_has ls 6 [(3, .int y), (0, .ref o), (1, .int x), (2, .int y)] := hl
  exact cut2 (((h + 1).toNat) + 1) y h e_y (Nat.lt_succ_self _) (by omega) (fun j a b => by omega) ls (lv_sub hl [1, 2, 3, 0] rfl)

abbrev rmX5_corrected : Room := { frames := 2, cells := 0, slots := 0, locals := 46 }
theorem iwX5_corrected_5 : ∀ w ∈ wsX50, w ∈ wsX5_corrected := fun _ h => List.mem_cons_of_mem _ (List.mem_append_right _ h)
theorem flX5_corrected_7 : Cond.fieldLink RX5 7 "SiltedFloatsModel" "s" "[I" ∈ wsX5_corrected := by decide +kernel
theorem hyX5_corrected : yX5_corrected.cls = RX5 ∧ yX5_corrected.cls ≠ "java/lang/invoke/MethodHandle" ∧ yX5_corrected.cls ≠ "java/lang/invoke/VarHandle" ∧ (parseMethodDescriptor yX5_corrected.desc).map (fun d => d.parameters.length) = some 2 := by decide +kernel
set_option maxHeartbeats 4000000 in
set_option maxRecDepth 100000 in
theorem kX5_corrected (l : Launch) (G : xG) (o : Nat) (μ : MD) (x : Int32) (t : Int) (e_x : x.toInt = t) (y : Int32) (h : Int) (e_y : y.toInt = h) (d : GD) (n : Int) (hG : Rg (fun w => cR μ.2.1 t w) d n) (hgo : gaugeOk d n) (hnb : 0 ≤ n ∧ n ≤ 120) (ht : 0 ≤ t ∧ t < 3) (hh : 0 ≤ h ∧ h < n) (hk : kindZ d h = 0) : Met l yX5_corrected wsX5_corrected rmX5_corrected (va_Pc [.ref o, .int x, .int y] (zPre G (fun H => MO G H o μ))) (zS (fun v => v.toInt = cordZ d h)) 0 0 zno := by
  refine z_ofW (cc := cX5_corrected) (maxL := 3) (ret := some .int) (by decide +kernel) rfl (Nat.le_of_ble_eq_true rfl) ?_
  intro p e s m below meth c hx hb hml hr hts hown hlocks hK hP ls hl
  have hM := hP
  have hown : s.vm.findClass RX5 = some m.cls := hown
  have hl : lv_has ls 3 [(0, .ref o), (1, .int x), (2, .int y)] := hl
  have hcb := corrB hgo h
  have hrb := hgo.small.read h
  refine lv_aload_n hx hb dX5_corrected_0 rfl (lv_at hl 0 rfl) ?_
  refine z_get hx hb hts iwX5_corrected_5 hown hK hM.1 rfl 0 (by decide) flX5_corrected_7 rfl (v := .ref (o + 1)) rfl dX5_corrected_1 ?_
  refine lv_iload_n hx hb dX5_corrected_4 rfl (lv_at hl 1 rfl) ?_
  refine lv_bipush (v := (9 : Int32)) hx hb dX5_corrected_5 (by decide) ?_
  refine lv_iload_n hx hb dX5_corrected_7 rfl (lv_at hl 2 rfl) ?_
  refine z_iadd hx hb kI_9 e_y dX5_corrected_8 (by omega) (fun z1 e1 => ?_)
  refine z_cS (As := [.int x, .int z1]) (rest := [.ref (o + 1)]) ⟨hx, hb, hml, hown, hts⟩ (kX5_of l G x t e_x z1 ((9 : Int) + h) e1 (by first | assumption | omega)) (va_cwS 2 hts gX5_corrected_X5_of rfl rfl rfl hyX5_of ⟨Nat.le_of_ble_eq_true rfl, Nat.le_of_ble_eq_true rfl⟩) hK trivial rfl hl.1 rfl (Nat.le_of_ble_eq_true rfl) dX5_corrected_9 ⟨Nat.zero_le _, Nat.zero_le _⟩ (fun z2 e2 => ?_)
  have e2 : z2.toInt = 10 + 731 * t + ((9 : Int) + h) := e2
  refine z_iald (f := μ.2.1) hx hb hK 0 hM.2.1 rfl e2 (by omega) dX5_corrected_12 ?_
  have hcl3 : (μ.2.1 (10 + 731 * t + ((9 : Int) + h)).toNat).toInt = readZ d h := ((hG.2.1 h (by omega) (by omega)).2.2.1 hk)
  refine lv_aload_n hx hb dX5_corrected_13 rfl (lv_at hl 0 rfl) ?_
  refine lv_iload_n hx hb dX5_corrected_14 rfl (lv_at hl 1 rfl) ?_
  refine lv_iload_n hx hb dX5_corrected_15 rfl (lv_at hl 2 rfl) ?_
  refine z_cV (As := [.int x, .int y]) (rest := [.int (μ.2.1 (10 + 731 * t + ((9 : Int) + h)).toNat)]) ⟨hx, hb, hml, hown, hts⟩ (kX5_correction l G o μ x t e_x y h e_y d n (by first | assumption | omega) (by first | assumption | omega) (by first | assumption | omega) (by first | assumption | omega) (by first | assumption | omega)) (cwV 2 hts gX5_corrected_X5_correction rfl rfl rfl hyX5_correction ⟨Nat.le_of_ble_eq_true rfl, Nat.le_of_ble_eq_true rfl⟩) hK hM hM.1 rfl rfl hl.1 rfl (Nat.le_of_ble_eq_true rfl) dX5_corrected_16 ⟨Nat.zero_le _, Nat.zero_le _⟩ (fun z4 e4 => ?_)
  have e4 : z4.toInt = corrZ d h := e4
  refine z_isub hx hb hcl3 e4 dX5_corrected_19 (by omega) (fun z5 e5 => ?_)
  exact z_ri (v := z5) hx hb hr hlocks (show z5.toInt = cordZ d h from (by rw [e5]; rfl)) dX5_corrected_20
