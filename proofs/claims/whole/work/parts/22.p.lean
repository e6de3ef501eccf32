abbrev rmX5_sumOfAll : Room := { frames := 2, cells := 0, slots := 0, locals := 45 }
theorem hyX5_sumOfAll : yX5_sumOfAll.cls = RX5 ∧ yX5_sumOfAll.cls ≠ "java/lang/invoke/MethodHandle" ∧ yX5_sumOfAll.cls ≠ "java/lang/invoke/VarHandle" ∧ (parseMethodDescriptor yX5_sumOfAll.desc).map (fun d => d.parameters.length) = some 1 := by decide +kernel
set_option maxHeartbeats 1000000 in
set_option maxRecDepth 100000 in
theorem kX5_sumOfAll (l : Launch) (G : xG) (o : Nat) (μ : MD) (x : Int32) (k : Int) (e_x : x.toInt = k) (hk9 : 0 ≤ k ∧ k ≤ 610) (hn : 0 ≤ (μ.2.1 (0 : Int).toNat).toInt ∧ (μ.2.1 (0 : Int).toNat).toInt ≤ 120) (hc : ∀ t : Int, 0 ≤ t ∧ t < 3 → ∀ h : Int, 0 ≤ h → h < 120 → 0 ≤ cR μ.2.1 t (k + h) ∧ cR μ.2.1 t (k + h) ≤ 1) : Met l yX5_sumOfAll wsX5_sumOfAll rmX5_sumOfAll (va_Pc [.ref o, .int x] (zPre G (fun H => MO G H o μ))) (zS (fun v => v.toInt = sum3 μ.2.1 k)) 0 0 zno := by
  refine z_ofW (cc := cX5_sumOfAll) (maxL := 2) (ret := some .int) (by decide +kernel) rfl (Nat.le_of_ble_eq_true rfl) ?_
  intro p e s m below meth c hx hb hml hr hts hown hlocks hK hP ls hl
  have hM := hP
  have hown : s.vm.findClass RX5 = some m.cls := hown
  have hl : lv_has ls 2 [(0, .ref o), (1, .int x)] := hl
  have hs0 := sumZ_b9 (hc 0 (by omega)) hn
  have hs1 := sumZ_b9 (hc 1 (by omega)) hn
  have hs2 := sumZ_b9 (hc 2 (by omega)) hn
  refine lv_aload_n hx hb dX5_sumOfAll_0 rfl (lv_at hl 0 rfl) ?_
  refine lv_iconst (v := (0 : Int32)) hx hb dX5_sumOfAll_1 (by decide) ?_
  refine lv_iload_n hx hb dX5_sumOfAll_2 rfl (lv_at hl 1 rfl) ?_
  refine z_cV (As := [.int (0 : Int32), .int x]) (rest := []) ⟨hx, hb, hml, hown, hts⟩ (kX5_sum l G o μ (0 : Int32) (0 : Int) kI_0 x k e_x (by first | assumption | omega) (by first | assumption | omega) (by first | assumption | omega) (hc 0 (by omega))) (cwV 2 hts gX5_sumOfAll_X5_sum rfl rfl rfl hyX5_sum ⟨Nat.le_of_ble_eq_true rfl, Nat.le_of_ble_eq_true rfl⟩) hK hM hM.1 rfl rfl hl.1 rfl (Nat.le_of_ble_eq_true rfl) dX5_sumOfAll_3 ⟨Nat.zero_le _, Nat.zero_le _⟩ (fun z1 e1 => ?_)
  have e1 : z1.toInt = sumZ (fun h => cR μ.2.1 (0 : Int) (k + h)) 0 ((μ.2.1 (0 : Int).toNat).toInt).toNat := e1
  refine lv_aload_n hx hb dX5_sumOfAll_6 rfl (lv_at hl 0 rfl) ?_
  refine lv_iconst (v := (1 : Int32)) hx hb dX5_sumOfAll_7 (by decide) ?_
  refine lv_iload_n hx hb dX5_sumOfAll_8 rfl (lv_at hl 1 rfl) ?_
  refine z_cV (As := [.int (1 : Int32), .int x]) (rest := [.int z1]) ⟨hx, hb, hml, hown, hts⟩ (kX5_sum l G o μ (1 : Int32) (1 : Int) kI_1 x k e_x (by first | assumption | omega) (by first | assumption | omega) (by first | assumption | omega) (hc 1 (by omega))) (cwV 2 hts gX5_sumOfAll_X5_sum rfl rfl rfl hyX5_sum ⟨Nat.le_of_ble_eq_true rfl, Nat.le_of_ble_eq_true rfl⟩) hK hM hM.1 rfl rfl hl.1 rfl (Nat.le_of_ble_eq_true rfl) dX5_sumOfAll_9 ⟨Nat.zero_le _, Nat.zero_le _⟩ (fun z2 e2 => ?_)
  have e2 : z2.toInt = sumZ (fun h => cR μ.2.1 (1 : Int) (k + h)) 0 ((μ.2.1 (0 : Int).toNat).toInt).toNat := e2
  refine z_iadd hx hb e1 e2 dX5_sumOfAll_12 (by omega) (fun z3 e3 => ?_)
  refine lv_aload_n hx hb dX5_sumOfAll_13 rfl (lv_at hl 0 rfl) ?_
  refine lv_iconst (v := (2 : Int32)) hx hb dX5_sumOfAll_14 (by decide) ?_
  refine lv_iload_n hx hb dX5_sumOfAll_15 rfl (lv_at hl 1 rfl) ?_
  refine z_cV (As := [.int (2 : Int32), .int x]) (rest := [.int z3]) ⟨hx, hb, hml, hown, hts⟩ (kX5_sum l G o μ (2 : Int32) (2 : Int) kI_2 x k e_x (by first | assumption | omega) (by first | assumption | omega) (by first | assumption | omega) (hc 2 (by omega))) (cwV 2 hts gX5_sumOfAll_X5_sum rfl rfl rfl hyX5_sum ⟨Nat.le_of_ble_eq_true rfl, Nat.le_of_ble_eq_true rfl⟩) hK hM hM.1 rfl rfl hl.1 rfl (Nat.le_of_ble_eq_true rfl) dX5_sumOfAll_16 ⟨Nat.zero_le _, Nat.zero_le _⟩ (fun z4 e4 => ?_)
  have e4 : z4.toInt = sumZ (fun h => cR μ.2.1 (2 : Int) (k + h)) 0 ((μ.2.1 (0 : Int).toNat).toInt).toNat := e4
  refine z_iadd hx hb e3 e4 dX5_sumOfAll_19 (by omega) (fun z5 e5 => ?_)
  exact z_ri (v := z5) hx hb hr hlocks (show z5.toInt = sum3 μ.2.1 k from (by first | rfl | omega)) dX5_sumOfAll_20

abbrev rmX5_count : Room := { frames := 3, cells := 0, slots := 0, locals := 66 }
theorem iwX5_count_5 : ∀ w ∈ wsX50, w ∈ wsX5_count := fun _ h => List.mem_cons_of_mem _ (List.mem_append_right _ h)
theorem flX5_count_33 : Cond.fieldLink RX5 33 "SiltedFloatsModel" "known" "I" ∈ wsX5_count := by decide +kernel
theorem flX5_count_7 : Cond.fieldLink RX5 7 "SiltedFloatsModel" "s" "[I" ∈ wsX5_count := by decide +kernel
theorem flX5_count_72 : Cond.fieldLink RX5 72 "SiltedFloatsModel" "typed" "I" ∈ wsX5_count := by decide +kernel
theorem hyX5_count : yX5_count.cls = RX5 ∧ yX5_count.cls ≠ "java/lang/invoke/MethodHandle" ∧ yX5_count.cls ≠ "java/lang/invoke/VarHandle" ∧ (parseMethodDescriptor yX5_count.desc).map (fun d => d.parameters.length) = some 1 := by decide +kernel
set_option maxHeartbeats 1000000 in
set_option maxRecDepth 100000 in
theorem kX5_count (l : Launch) (G : xG) (o : Nat) (μ : MD) (x : Int32) (w : Int) (e_x : x.toInt = w) (σ : FD) (hRel : Rel σ μ) (hfd : fdOk σ) : Met l yX5_count wsX5_count rmX5_count (va_Pc [.ref o, .int x] (zPre G (fun H => MO G H o μ))) (zS (fun v => v.toInt = a_count σ w)) 0 0 zno := by
  refine z_ofW (cc := cX5_count) (maxL := 2) (ret := some .int) (by decide +kernel) rfl (Nat.le_of_ble_eq_true rfl) ?_
  intro p e s m below meth c hx hb hml hr hts hown hlocks hK hP ls hl
  have hM := hP
  have hown : s.vm.findClass RX5 = some m.cls := hown
  have hl : lv_has ls 2 [(0, .ref o), (1, .int x)] := hl
  have hR := hRel.1
  have hok := hfd.1
  have hn0 := hR.1
  have hok1 := hok.1
  have hW := hR.w
  have hwo := hok.2.1
  have ha0 := hR.all0 hok
  have ha2 := hR.all2 hok
  have han := all_n hok
  have hk0 := allK_b σ.1 0
  refine lv_iload_n hx hb dX5_count_0 rfl (lv_at hl 1 rfl) ?_
  rcases (show w < 0 ∨ 6 < w ∨ w = 0 ∨ w = 1 ∨ w = 2 ∨ w = 3 ∨ w = 4 ∨ w = 5 ∨ w = 6 from by omega) with c_1 | c_1 | c_1 | c_1 | c_1 | c_1 | c_1 | c_1 | c_1
  · refine lv_tableOut (tgt := 99) hx hb dX5_count_1 (by rw [e_x]; omega) (by decide) ?_
    refine lv_bipush (v := (-2 : Int32)) hx hb dX5_count_99 (by decide) ?_
    exact z_ri (v := (-2 : Int32)) hx hb hr hlocks (show (-2 : Int32).toInt = a_count σ w from (by rw [a_count_out (by omega)]; rfl)) dX5_count_101
  · refine lv_tableOut (tgt := 99) hx hb dX5_count_1 (by rw [e_x]; omega) (by decide) ?_
    refine lv_bipush (v := (-2 : Int32)) hx hb dX5_count_99 (by decide) ?_
    exact z_ri (v := (-2 : Int32)) hx hb hr hlocks (show (-2 : Int32).toInt = a_count σ w from (by rw [a_count_out (by omega)]; rfl)) dX5_count_101
  · refine lv_tableIn (off := 43) (tgt := 44) hx hb dX5_count_1 (by rw [e_x]; omega) (by rw [e_x]; omega) (by rw [e_x, c_1]; rfl) (by decide) ?_
    refine lv_aload_n hx hb dX5_count_44 rfl (lv_at hl 0 rfl) ?_
    refine z_get hx hb hts iwX5_count_5 hown hK hM.1 rfl 0 (by decide) flX5_count_7 rfl (v := .ref (o + 1)) rfl dX5_count_45 ?_
    refine lv_iconst (v := (0 : Int32)) hx hb dX5_count_48 (by decide) ?_
    refine z_iald (f := μ.2.1) hx hb hK 0 hM.2.1 rfl kI_0 (by omega) dX5_count_49 ?_
    have hcl2 : (μ.2.1 (0 : Int).toNat).toInt = σ.1.1.toInt := hn0
    exact z_ri (v := μ.2.1 (0 : Int).toNat) hx hb hr hlocks (show (μ.2.1 (0 : Int).toNat).toInt = a_count σ w from (by have hw9 : w = 0 := (by omega); subst hw9; exact hcl2)) dX5_count_50
  · refine lv_tableIn (off := 50) (tgt := 51) hx hb dX5_count_1 (by rw [e_x]; omega) (by rw [e_x]; omega) (by rw [e_x, c_1]; rfl) (by decide) ?_
    refine lv_aload_n hx hb dX5_count_51 rfl (lv_at hl 0 rfl) ?_
    refine z_cV (As := []) (rest := []) ⟨hx, hb, hml, hown, hts⟩ (kX5_manyOn l G o μ σ.1 (by first | assumption | omega) (by first | assumption | omega)) (cwV 0 hts gX5_count_X5_manyOn rfl rfl rfl hyX5_manyOn ⟨Nat.le_of_ble_eq_true rfl, Nat.le_of_ble_eq_true rfl⟩) hK hM hM.1 rfl rfl hl.1 rfl (Nat.le_of_ble_eq_true rfl) dX5_count_52 ⟨Nat.zero_le _, Nat.zero_le _⟩ (fun z3 e3 => ?_)
    have e3 : z3.toInt = onN σ.1.2.2 3 := e3
    exact z_ri (v := z3) hx hb hr hlocks (show z3.toInt = a_count σ w from (by have hw9 : w = 1 := (by omega); subst hw9; exact e3)) dX5_count_55
  · refine lv_tableIn (off := 55) (tgt := 56) hx hb dX5_count_1 (by rw [e_x]; omega) (by rw [e_x]; omega) (by rw [e_x, c_1]; rfl) (by decide) ?_
    refine lv_aload_n hx hb dX5_count_56 rfl (lv_at hl 0 rfl) ?_
    refine lv_sipush (v := (129 : Int32)) hx hb dX5_count_57 (by decide) ?_
    refine z_cV (As := [.int (129 : Int32)]) (rest := []) ⟨hx, hb, hml, hown, hts⟩ (kX5_sumOfAll l G o μ (129 : Int32) (129 : Int) kI_129 (by first | assumption | omega) (by first | assumption | omega) (fun t ht => hR.b0 ht)) (cwV 1 hts gX5_count_X5_sumOfAll rfl rfl rfl hyX5_sumOfAll ⟨Nat.le_of_ble_eq_true rfl, Nat.le_of_ble_eq_true rfl⟩) hK hM hM.1 rfl rfl hl.1 rfl (Nat.le_of_ble_eq_true rfl) dX5_count_60 ⟨Nat.zero_le _, Nat.zero_le _⟩ (fun z4 e4 => ?_)
    have e4 : z4.toInt = sum3 μ.2.1 (129 : Int) := e4
    have e4 : z4.toInt = allK σ.1 0 := by rw [e4]; exact ha0
    exact z_ri (v := z4) hx hb hr hlocks (show z4.toInt = a_count σ w from (by have hw9 : w = 2 := (by omega); subst hw9; exact e4)) dX5_count_63
  · refine lv_tableIn (off := 63) (tgt := 64) hx hb dX5_count_1 (by rw [e_x]; omega) (by rw [e_x]; omega) (by rw [e_x, c_1]; rfl) (by decide) ?_
    refine lv_iconst (v := (3 : Int32)) hx hb dX5_count_64 (by decide) ?_
    refine lv_aload_n hx hb dX5_count_65 rfl (lv_at hl 0 rfl) ?_
    refine z_get hx hb hts iwX5_count_5 hown hK hM.1 rfl 0 (by decide) flX5_count_7 rfl (v := .ref (o + 1)) rfl dX5_count_66 ?_
    refine lv_iconst (v := (0 : Int32)) hx hb dX5_count_69 (by decide) ?_
    refine z_iald (f := μ.2.1) hx hb hK 0 hM.2.1 rfl kI_0 (by omega) dX5_count_70 ?_
    have hcl5 : (μ.2.1 (0 : Int).toNat).toInt = σ.1.1.toInt := hn0
    refine z_imul hx hb kI_3 hcl5 dX5_count_71 (by omega) (fun z6 e6 => ?_)
    refine lv_aload_n hx hb dX5_count_72 rfl (lv_at hl 0 rfl) ?_
    refine lv_sipush (v := (129 : Int32)) hx hb dX5_count_73 (by decide) ?_
    refine z_cV (As := [.int (129 : Int32)]) (rest := [.int z6]) ⟨hx, hb, hml, hown, hts⟩ (kX5_sumOfAll l G o μ (129 : Int32) (129 : Int) kI_129 (by first | assumption | omega) (by first | assumption | omega) (fun t ht => hR.b0 ht)) (cwV 1 hts gX5_count_X5_sumOfAll rfl rfl rfl hyX5_sumOfAll ⟨Nat.le_of_ble_eq_true rfl, Nat.le_of_ble_eq_true rfl⟩) hK hM hM.1 rfl rfl hl.1 rfl (Nat.le_of_ble_eq_true rfl) dX5_count_76 ⟨Nat.zero_le _, Nat.zero_le _⟩ (fun z7 e7 => ?_)
    have e7 : z7.toInt = sum3 μ.2.1 (129 : Int) := e7
    have e7 : z7.toInt = allK σ.1 0 := by rw [e7]; exact ha0
    refine z_isub hx hb e6 e7 dX5_count_79 (by omega) (fun z8 e8 => ?_)
    exact z_ri (v := z8) hx hb hr hlocks (show z8.toInt = a_count σ w from (by have hw9 : w = 3 := (by omega); subst hw9; rw [e8]; show _ = allK σ.1 1 + allK σ.1 2; omega)) dX5_count_80
  · refine lv_tableIn (off := 80) (tgt := 81) hx hb dX5_count_1 (by rw [e_x]; omega) (by rw [e_x]; omega) (by rw [e_x, c_1]; rfl) (by decide) ?_
    refine lv_aload_n hx hb dX5_count_81 rfl (lv_at hl 0 rfl) ?_
    refine lv_sipush (v := (369 : Int32)) hx hb dX5_count_82 (by decide) ?_
    refine z_cV (As := [.int (369 : Int32)]) (rest := []) ⟨hx, hb, hml, hown, hts⟩ (kX5_sumOfAll l G o μ (369 : Int32) (369 : Int) kI_369 (by first | assumption | omega) (by first | assumption | omega) (fun t ht => hR.b2 ht)) (cwV 1 hts gX5_count_X5_sumOfAll rfl rfl rfl hyX5_sumOfAll ⟨Nat.le_of_ble_eq_true rfl, Nat.le_of_ble_eq_true rfl⟩) hK hM hM.1 rfl rfl hl.1 rfl (Nat.le_of_ble_eq_true rfl) dX5_count_85 ⟨Nat.zero_le _, Nat.zero_le _⟩ (fun z9 e9 => ?_)
    have e9 : z9.toInt = sum3 μ.2.1 (369 : Int) := e9
    have e9 : z9.toInt = allK σ.1 2 := by rw [e9]; exact ha2
    exact z_ri (v := z9) hx hb hr hlocks (show z9.toInt = a_count σ w from (by have hw9 : w = 4 := (by omega); subst hw9; exact e9)) dX5_count_88
  · refine lv_tableIn (off := 88) (tgt := 89) hx hb dX5_count_1 (by rw [e_x]; omega) (by rw [e_x]; omega) (by rw [e_x, c_1]; rfl) (by decide) ?_
    refine lv_aload_n hx hb dX5_count_89 rfl (lv_at hl 0 rfl) ?_
    refine z_get hx hb hts iwX5_count_5 hown hK hM.1 rfl 2 (by decide) flX5_count_33 rfl (v := .int (μ.1 2)) rfl dX5_count_90 ?_
    exact z_ri (v := μ.1 2) hx hb hr hlocks (show (μ.1 2).toInt = a_count σ w from (by have hw9 : w = 5 := (by omega); subst hw9; exact hRel.2.1.1)) dX5_count_93
  · refine lv_tableIn (off := 93) (tgt := 94) hx hb dX5_count_1 (by rw [e_x]; omega) (by rw [e_x]; omega) (by rw [e_x, c_1]; rfl) (by decide) ?_
    refine lv_aload_n hx hb dX5_count_94 rfl (lv_at hl 0 rfl) ?_
    refine z_get hx hb hts iwX5_count_5 hown hK hM.1 rfl 6 (by decide) flX5_count_72 rfl (v := .int (μ.1 6)) rfl dX5_count_95 ?_
    exact z_ri (v := μ.1 6) hx hb hr hlocks (show (μ.1 6).toInt = a_count σ w from (by have hw9 : w = 6 := (by omega); subst hw9; exact hRel.2.2.2.1)) dX5_count_98
