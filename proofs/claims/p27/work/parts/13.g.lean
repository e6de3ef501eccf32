abbrev rmX4_station : Room := { frames := 4, cells := 0, slots := 0, locals := 86 }
theorem iwX4_station_0 : ∀ w ∈ wsX00, w ∈ wsX4_station := fun _ h => List.mem_cons_of_mem _ (List.mem_append_right _ h)
theorem iwX4_station_2 : ∀ w ∈ wsX20, w ∈ wsX4_station := fun _ h => List.mem_cons_of_mem _ (List.mem_append_left _ (List.mem_append_right _ h))
theorem iwX4_station_4 : ∀ w ∈ wsX40, w ∈ wsX4_station := fun _ h => List.mem_cons_of_mem _ (List.mem_append_left _ (List.mem_append_left _ (List.mem_append_right _ h)))
theorem flX4_station_10 : Cond.fieldLink RX4 10 "SiltedFloats" "now" "LSiltedFloats$State;" ∈ wsX4_station := by decide +kernel
theorem flX4_station_105 : Cond.fieldLink RX4 105 "SiltedFloats$Gauge" "sunk" "I" ∈ wsX4_station := by decide +kernel
theorem flX4_station_176 : Cond.fieldLink RX4 176 "SiltedFloats$Gauge" "delay" "I" ∈ wsX4_station := by decide +kernel
theorem flX4_station_179 : Cond.fieldLink RX4 179 "SiltedFloats$Gauge" "scale" "I" ∈ wsX4_station := by decide +kernel
theorem flX4_station_182 : Cond.fieldLink RX4 182 "SiltedFloats$Gauge" "offset" "I" ∈ wsX4_station := by decide +kernel
theorem flX4_station_188 : Cond.fieldLink RX4 188 "SiltedFloats$Gauge" "notes" "I" ∈ wsX4_station := by decide +kernel
theorem flX4_station_66 : Cond.fieldLink RX4 66 "SiltedFloats$State" "gauges" "[LSiltedFloats$Gauge;" ∈ wsX4_station := by decide +kernel
theorem flX4_station_78 : Cond.fieldLink RX4 78 "SiltedFloats$Gauge" "floatLevel" "I" ∈ wsX4_station := by decide +kernel
theorem flX4_station_81 : Cond.fieldLink RX4 81 "SiltedFloats$Gauge" "sinking" "I" ∈ wsX4_station := by decide +kernel
theorem flX4_station_84 : Cond.fieldLink RX4 84 "SiltedFloats$Gauge" "silting" "I" ∈ wsX4_station := by decide +kernel
theorem flX4_station_87 : Cond.fieldLink RX4 87 "SiltedFloats$Gauge" "on" "Z" ∈ wsX4_station := by decide +kernel
theorem flX4_station_95 : Cond.fieldLink RX4 95 "SiltedFloats$Gauge" "silt" "I" ∈ wsX4_station := by decide +kernel
theorem flX4_station_c61 : Cond.constant RX4 61 (100000) ∈ wsX4_station := by decide +kernel
theorem hyX4_station : yX4_station.cls = RX4 ∧ yX4_station.cls ≠ "java/lang/invoke/MethodHandle" ∧ yX4_station.cls ≠ "java/lang/invoke/VarHandle" ∧ (parseMethodDescriptor yX4_station.desc).map (fun d => d.parameters.length) = some 2 := by decide +kernel
set_option maxHeartbeats 4000000 in
set_option maxRecDepth 100000 in
theorem kX4_station (l : Launch) (G : xG) (z : Nat) (σ : FD) (xt : Int32) (t : Int) (e_xt : xt.toInt = t) (xw : Int32) (w : Int) (e_xw : xw.toInt = w) (hok : fdOk σ) : Met l yX4_station wsX4_station rmX4_station (va_Pc [.ref z, .int xt, .int xw] (zPre G (fun H => SFP G H z σ))) (zS (fun v => v.toInt = a_station σ t w)) 0 0 zno := by
  refine z_ofW (cc := cX4_station) (maxL := 4) (ret := some .int) (by decide +kernel) rfl (Nat.le_of_ble_eq_true rfl) ?_
  intro p e s m below meth c hx hb hml hr hts hown hlocks hK hP ls hl
  have hF := hP
  have hown : s.vm.findClass RX4 = some m.cls := hown
  have hl : lv_has ls 4 [(0, .ref z), (1, .int xt), (2, .int xw)] := hl
  have hok1 := hok.1
  have hokh := hok1.1
  refine lv_iload_n hx hb dX4_station_0 rfl (lv_at hl 1 rfl) ?_
  refine z_cS (As := [.int xt]) (rest := []) ⟨hx, hb, hml, hown, hts⟩ (kX4_isStation l G xt t e_xt) (va_cwS 1 hts gX4_station_X4_isStation rfl rfl rfl hyX4_isStation ⟨Nat.le_of_ble_eq_true rfl, Nat.le_of_ble_eq_true rfl⟩) hK trivial rfl hl.1 rfl (Nat.le_of_ble_eq_true rfl) dX4_station_1 ⟨Nat.zero_le _, Nat.zero_le _⟩ (fun z1 e1 => ?_)
  have e1 : isB z1 (0 ≤ t ∧ t < 3) := e1
  refine z_ifb_ne (tgt := 9) hx hb e1 dX4_station_4 (by decide) (fun c_2 => ?_) (fun c_2 => ?_)
  · have hgo := hok1.2.2 t.toNat (by omega)
    have hgb := hgo.1
    have hg2 := hgo.2.1
    have hg3 := hgo.2.2.1
    refine lv_aload_n hx hb dX4_station_9 rfl (lv_at hl 0 rfl) ?_
    have hN3 : ST G s.heap (z + 1) σ.1 := hF.now
    refine z_get hx hb hts iwX4_station_4 hown hK hF.1 rfl 0 (by decide) flX4_station_10 rfl (v := .ref (z + 1)) rfl dX4_station_10 ?_
    refine z_get hx hb hts iwX4_station_2 hown hK hN3.1 rfl 2 (by decide) flX4_station_66 rfl (v := .ref ((z + 1) + 5)) rfl dX4_station_13 ?_
    refine lv_iload_n hx hb dX4_station_16 rfl (lv_at hl 1 rfl) ?_
    have hJ4 : GA G s.heap ((z + 1) + 6 + 4 * t.toNat) (σ.1.2.2 t.toNat) := hN3.gauge (i := t.toNat) (by omega)
    refine z_aald (b := (z + 1) + 6 + 4 * t.toNat) hx hb hK 3 hN3.2.2.1 rfl e_xt (by omega) rfl dX4_station_17 ?_
    refine lv_astore_n hx hb dX4_station_18 rfl hl (by decide) rfl (fun ls hl => ?_)
    have hl : lv_has ls 4 [(3, .ref ((z + 1) + 6 + 4 * t.toNat)), (0, .ref z), (1, .int xt), (2, .int xw)] := hl
    refine lv_iload_n hx hb dX4_station_19 rfl (lv_at hl 3 rfl) ?_
    rcases (show w < 0 ∨ 12 < w ∨ w = 0 ∨ w = 1 ∨ w = 2 ∨ w = 3 ∨ w = 4 ∨ w = 5 ∨ w = 6 ∨ w = 7 ∨ w = 8 ∨ w = 9 ∨ w = 10 ∨ w = 11 ∨ w = 12 from by omega) with c_5 | c_5 | c_5 | c_5 | c_5 | c_5 | c_5 | c_5 | c_5 | c_5 | c_5 | c_5 | c_5 | c_5 | c_5
    · refine lv_tableOut (tgt := 169) hx hb dX4_station_20 (by rw [e_xw]; omega) (by decide) ?_
      refine lv_bipush (v := (-2 : Int32)) hx hb dX4_station_169 (by decide) ?_
      exact z_ri (v := (-2 : Int32)) hx hb hr hlocks (show (-2 : Int32).toInt = a_station σ t w from (by unfold a_station; rw [if_neg (by omega), stW_out (by omega)]; rfl)) dX4_station_171
    · refine lv_tableOut (tgt := 169) hx hb dX4_station_20 (by rw [e_xw]; omega) (by decide) ?_
      refine lv_bipush (v := (-2 : Int32)) hx hb dX4_station_169 (by decide) ?_
      exact z_ri (v := (-2 : Int32)) hx hb hr hlocks (show (-2 : Int32).toInt = a_station σ t w from (by unfold a_station; rw [if_neg (by omega), stW_out (by omega)]; rfl)) dX4_station_171
    · refine lv_tableIn (off := 68) (tgt := 88) hx hb dX4_station_20 (by rw [e_xw]; omega) (by rw [e_xw]; omega) (by rw [e_xw, c_5]; rfl) (by decide) ?_
      refine lv_aload_n hx hb dX4_station_88 rfl (lv_at hl 0 rfl) ?_
      refine z_get hx hb hts iwX4_station_0 hown hK hJ4.1 rfl 0 (by decide) flX4_station_176 rfl (v := .int (((σ.1.2.2 t.toNat).1) 0)) rfl dX4_station_89 ?_
      exact z_ri (v := ((σ.1.2.2 t.toNat).1) 0) hx hb hr hlocks (show (((σ.1.2.2 t.toNat).1) 0).toInt = a_station σ t w from (by unfold a_station; rw [if_neg (by omega), show w = 0 by omega]; exact rfl)) dX4_station_92
    · refine lv_tableIn (off := 73) (tgt := 93) hx hb dX4_station_20 (by rw [e_xw]; omega) (by rw [e_xw]; omega) (by rw [e_xw, c_5]; rfl) (by decide) ?_
      refine lv_aload_n hx hb dX4_station_93 rfl (lv_at hl 0 rfl) ?_
      refine z_get hx hb hts iwX4_station_0 hown hK hJ4.1 rfl 1 (by decide) flX4_station_179 rfl (v := .int (((σ.1.2.2 t.toNat).1) 1)) rfl dX4_station_94 ?_
      exact z_ri (v := ((σ.1.2.2 t.toNat).1) 1) hx hb hr hlocks (show (((σ.1.2.2 t.toNat).1) 1).toInt = a_station σ t w from (by unfold a_station; rw [if_neg (by omega), show w = 1 by omega]; exact rfl)) dX4_station_97
    · refine lv_tableIn (off := 78) (tgt := 98) hx hb dX4_station_20 (by rw [e_xw]; omega) (by rw [e_xw]; omega) (by rw [e_xw, c_5]; rfl) (by decide) ?_
      refine lv_aload_n hx hb dX4_station_98 rfl (lv_at hl 0 rfl) ?_
      refine z_get hx hb hts iwX4_station_0 hown hK hJ4.1 rfl 2 (by decide) flX4_station_182 rfl (v := .int (((σ.1.2.2 t.toNat).1) 2)) rfl dX4_station_99 ?_
      refine lv_ldc (v := (100000 : Int32)) hx hb hown (hts _ flX4_station_c61) dX4_station_102 ?_
      refine z_iadd hx hb rfl kI_100000 dX4_station_104 (by omega) (fun z6 e6 => ?_)
      exact z_ri (v := z6) hx hb hr hlocks (show z6.toInt = a_station σ t w from (by unfold a_station; rw [if_neg (by omega), show w = 2 by omega]; exact e6)) dX4_station_105
    · refine lv_tableIn (off := 86) (tgt := 106) hx hb dX4_station_20 (by rw [e_xw]; omega) (by rw [e_xw]; omega) (by rw [e_xw, c_5]; rfl) (by decide) ?_
      refine lv_aload_n hx hb dX4_station_106 rfl (lv_at hl 0 rfl) ?_
      refine z_get hx hb hts iwX4_station_0 hown hK hJ4.1 rfl 3 (by decide) flX4_station_78 rfl (v := .int (((σ.1.2.2 t.toNat).1) 3)) rfl dX4_station_107 ?_
      refine lv_ldc (v := (100000 : Int32)) hx hb hown (hts _ flX4_station_c61) dX4_station_110 ?_
      refine z_iadd hx hb rfl kI_100000 dX4_station_112 (by omega) (fun z7 e7 => ?_)
      exact z_ri (v := z7) hx hb hr hlocks (show z7.toInt = a_station σ t w from (by unfold a_station; rw [if_neg (by omega), show w = 3 by omega]; exact e7)) dX4_station_113
    · refine lv_tableIn (off := 94) (tgt := 114) hx hb dX4_station_20 (by rw [e_xw]; omega) (by rw [e_xw]; omega) (by rw [e_xw, c_5]; rfl) (by decide) ?_
      refine lv_aload_n hx hb dX4_station_114 rfl (lv_at hl 0 rfl) ?_
      refine z_get hx hb hts iwX4_station_0 hown hK hJ4.1 rfl 4 (by decide) flX4_station_95 rfl (v := .int (((σ.1.2.2 t.toNat).1) 4)) rfl dX4_station_115 ?_
      exact z_ri (v := ((σ.1.2.2 t.toNat).1) 4) hx hb hr hlocks (show (((σ.1.2.2 t.toNat).1) 4).toInt = a_station σ t w from (by unfold a_station; rw [if_neg (by omega), show w = 4 by omega]; exact rfl)) dX4_station_118
    · refine lv_tableIn (off := 99) (tgt := 119) hx hb dX4_station_20 (by rw [e_xw]; omega) (by rw [e_xw]; omega) (by rw [e_xw, c_5]; rfl) (by decide) ?_
      refine lv_aload_n hx hb dX4_station_119 rfl (lv_at hl 0 rfl) ?_
      refine z_get hx hb hts iwX4_station_0 hown hK hJ4.1 rfl 5 (by decide) flX4_station_84 rfl (v := .int (((σ.1.2.2 t.toNat).1) 5)) rfl dX4_station_120 ?_
      exact z_ri (v := ((σ.1.2.2 t.toNat).1) 5) hx hb hr hlocks (show (((σ.1.2.2 t.toNat).1) 5).toInt = a_station σ t w from (by unfold a_station; rw [if_neg (by omega), show w = 5 by omega]; exact rfl)) dX4_station_123
    · refine lv_tableIn (off := 104) (tgt := 124) hx hb dX4_station_20 (by rw [e_xw]; omega) (by rw [e_xw]; omega) (by rw [e_xw, c_5]; rfl) (by decide) ?_
      refine lv_aload_n hx hb dX4_station_124 rfl (lv_at hl 0 rfl) ?_
      refine z_get hx hb hts iwX4_station_0 hown hK hJ4.1 rfl 6 (by decide) flX4_station_81 rfl (v := .int (((σ.1.2.2 t.toNat).1) 6)) rfl dX4_station_125 ?_
      exact z_ri (v := ((σ.1.2.2 t.toNat).1) 6) hx hb hr hlocks (show (((σ.1.2.2 t.toNat).1) 6).toInt = a_station σ t w from (by unfold a_station; rw [if_neg (by omega), show w = 6 by omega]; exact rfl)) dX4_station_128
    · refine lv_tableIn (off := 109) (tgt := 129) hx hb dX4_station_20 (by rw [e_xw]; omega) (by rw [e_xw]; omega) (by rw [e_xw, c_5]; rfl) (by decide) ?_
      refine lv_aload_n hx hb dX4_station_129 rfl (lv_at hl 0 rfl) ?_
      refine z_get hx hb hts iwX4_station_0 hown hK hJ4.1 rfl 7 (by decide) flX4_station_105 rfl (v := .int (((σ.1.2.2 t.toNat).1) 7)) rfl dX4_station_130 ?_
      exact z_ri (v := ((σ.1.2.2 t.toNat).1) 7) hx hb hr hlocks (show (((σ.1.2.2 t.toNat).1) 7).toInt = a_station σ t w from (by unfold a_station; rw [if_neg (by omega), show w = 7 by omega]; exact rfl)) dX4_station_133
    · refine lv_tableIn (off := 114) (tgt := 134) hx hb dX4_station_20 (by rw [e_xw]; omega) (by rw [e_xw]; omega) (by rw [e_xw, c_5]; rfl) (by decide) ?_
      refine lv_aload_n hx hb dX4_station_134 rfl (lv_at hl 0 rfl) ?_
      refine z_get hx hb hts iwX4_station_0 hown hK hJ4.1 rfl 8 (by decide) flX4_station_87 rfl (v := .int (((σ.1.2.2 t.toNat).1) 8)) rfl dX4_station_135 ?_
      refine z_if_eq (tgt := 145) hx hb rfl dX4_station_138 (by decide) (fun c_8 => ?_) (fun c_8 => ?_)
      · refine lv_iconst (v := (0 : Int32)) hx hb dX4_station_145 (by decide) ?_
        exact z_ri (v := (0 : Int32)) hx hb hr hlocks (show (0 : Int32).toInt = a_station σ t w from (by unfold a_station; rw [if_neg (by omega), show w = 8 by omega]; exact (if_pos (by omega)).symm)) dX4_station_146
      · refine lv_iconst (v := (1 : Int32)) hx hb dX4_station_141 (by decide) ?_
        refine lv_goto (tgt := 146) hx hb dX4_station_142 (by decide) ?_
        exact z_ri (v := (1 : Int32)) hx hb hr hlocks (show (1 : Int32).toInt = a_station σ t w from (by unfold a_station; rw [if_neg (by omega), show w = 8 by omega]; exact (if_neg (by omega)).symm)) dX4_station_146
    · refine lv_tableIn (off := 127) (tgt := 147) hx hb dX4_station_20 (by rw [e_xw]; omega) (by rw [e_xw]; omega) (by rw [e_xw, c_5]; rfl) (by decide) ?_
      refine lv_aload_n hx hb dX4_station_147 rfl (lv_at hl 0 rfl) ?_
      refine lv_iconst (v := (0 : Int32)) hx hb dX4_station_148 (by decide) ?_
      refine z_cV (As := [.int (0 : Int32)]) (rest := []) ⟨hx, hb, hml, hown, hts⟩ (kX0_hoursOfKind l G ((z + 1) + 6 + 4 * t.toNat) (σ.1.2.2 t.toNat) (0 : Int32) (0 : Int) kI_0) (cwV 1 hts gX4_station_X0_hoursOfKind rfl rfl rfl hyX0_hoursOfKind ⟨Nat.le_of_ble_eq_true rfl, Nat.le_of_ble_eq_true rfl⟩) hK hJ4 hJ4.1 rfl rfl hl.1 rfl (Nat.le_of_ble_eq_true rfl) dX4_station_149 ⟨Nat.zero_le _, Nat.zero_le _⟩ (fun z9 e9 => ?_)
      have e9 : z9.toInt = cntZ (fun j => ((σ.1.2.2 t.toNat).2.1 j).toInt = (0 : Int)) 120 := e9
      exact z_ri (v := z9) hx hb hr hlocks (show z9.toInt = a_station σ t w from (by unfold a_station; rw [if_neg (by omega), show w = 9 by omega]; exact e9)) dX4_station_152
    · refine lv_tableIn (off := 133) (tgt := 153) hx hb dX4_station_20 (by rw [e_xw]; omega) (by rw [e_xw]; omega) (by rw [e_xw, c_5]; rfl) (by decide) ?_
      refine lv_aload_n hx hb dX4_station_153 rfl (lv_at hl 0 rfl) ?_
      refine z_cV (As := []) (rest := []) ⟨hx, hb, hml, hown, hts⟩ (kX0_gaps l G ((z + 1) + 6 + 4 * t.toNat) (σ.1.2.2 t.toNat)) (cwV 0 hts gX4_station_X0_gaps rfl rfl rfl hyX0_gaps ⟨Nat.le_of_ble_eq_true rfl, Nat.le_of_ble_eq_true rfl⟩) hK hJ4 hJ4.1 rfl rfl hl.1 rfl (Nat.le_of_ble_eq_true rfl) dX4_station_154 ⟨Nat.zero_le _, Nat.zero_le _⟩ (fun z10 e10 => ?_)
      have e10 : z10.toInt = cntZ (fun j => sgP (σ.1.2.2 t.toNat) (j : Int)) 120 := e10
      exact z_ri (v := z10) hx hb hr hlocks (show z10.toInt = a_station σ t w from (by unfold a_station; rw [if_neg (by omega), show w = 10 by omega]; exact e10)) dX4_station_157
    · refine lv_tableIn (off := 138) (tgt := 158) hx hb dX4_station_20 (by rw [e_xw]; omega) (by rw [e_xw]; omega) (by rw [e_xw, c_5]; rfl) (by decide) ?_
      refine lv_aload_n hx hb dX4_station_158 rfl (lv_at hl 0 rfl) ?_
      refine lv_iconst (v := (2 : Int32)) hx hb dX4_station_159 (by decide) ?_
      refine z_cV (As := [.int (2 : Int32)]) (rest := []) ⟨hx, hb, hml, hown, hts⟩ (kX0_hoursOfKind l G ((z + 1) + 6 + 4 * t.toNat) (σ.1.2.2 t.toNat) (2 : Int32) (2 : Int) kI_2) (cwV 1 hts gX4_station_X0_hoursOfKind rfl rfl rfl hyX0_hoursOfKind ⟨Nat.le_of_ble_eq_true rfl, Nat.le_of_ble_eq_true rfl⟩) hK hJ4 hJ4.1 rfl rfl hl.1 rfl (Nat.le_of_ble_eq_true rfl) dX4_station_160 ⟨Nat.zero_le _, Nat.zero_le _⟩ (fun z11 e11 => ?_)
      have e11 : z11.toInt = cntZ (fun j => ((σ.1.2.2 t.toNat).2.1 j).toInt = (2 : Int)) 120 := e11
      exact z_ri (v := z11) hx hb hr hlocks (show z11.toInt = a_station σ t w from (by unfold a_station; rw [if_neg (by omega), show w = 11 by omega]; exact e11)) dX4_station_163
    · refine lv_tableIn (off := 144) (tgt := 164) hx hb dX4_station_20 (by rw [e_xw]; omega) (by rw [e_xw]; omega) (by rw [e_xw, c_5]; rfl) (by decide) ?_
      refine lv_aload_n hx hb dX4_station_164 rfl (lv_at hl 0 rfl) ?_
      refine z_get hx hb hts iwX4_station_0 hown hK hJ4.1 rfl 9 (by decide) flX4_station_188 rfl (v := .int (((σ.1.2.2 t.toNat).1) 9)) rfl dX4_station_165 ?_
      exact z_ri (v := ((σ.1.2.2 t.toNat).1) 9) hx hb hr hlocks (show (((σ.1.2.2 t.toNat).1) 9).toInt = a_station σ t w from (by unfold a_station; rw [if_neg (by omega), show w = 12 by omega]; exact rfl)) dX4_station_168
  · refine lv_iconst (v := (-1 : Int32)) hx hb dX4_station_7 (by decide) ?_
    exact z_ri (v := (-1 : Int32)) hx hb hr hlocks (show (-1 : Int32).toInt = a_station σ t w from (by unfold a_station; rw [if_pos (by omega)]; rfl)) dX4_station_8

abbrev rmX4_hour : Room := { frames := 3, cells := 0, slots := 0, locals := 63 }
theorem iwX4_hour_2 : ∀ w ∈ wsX20, w ∈ wsX4_hour := fun _ h => List.mem_cons_of_mem _ (List.mem_append_left _ (List.mem_append_right _ h))
theorem iwX4_hour_4 : ∀ w ∈ wsX40, w ∈ wsX4_hour := fun _ h => List.mem_cons_of_mem _ (List.mem_append_left _ (List.mem_append_left _ (List.mem_append_right _ h)))
theorem flX4_hour_10 : Cond.fieldLink RX4 10 "SiltedFloats" "now" "LSiltedFloats$State;" ∈ wsX4_hour := by decide +kernel
theorem flX4_hour_34 : Cond.fieldLink RX4 34 "SiltedFloats$State" "hour" "I" ∈ wsX4_hour := by decide +kernel
theorem flX4_hour_66 : Cond.fieldLink RX4 66 "SiltedFloats$State" "gauges" "[LSiltedFloats$Gauge;" ∈ wsX4_hour := by decide +kernel
theorem flX4_hour_c61 : Cond.constant RX4 61 (100000) ∈ wsX4_hour := by decide +kernel
theorem hyX4_hour : yX4_hour.cls = RX4 ∧ yX4_hour.cls ≠ "java/lang/invoke/MethodHandle" ∧ yX4_hour.cls ≠ "java/lang/invoke/VarHandle" ∧ (parseMethodDescriptor yX4_hour.desc).map (fun d => d.parameters.length) = some 3 := by decide +kernel
set_option maxHeartbeats 4000000 in
set_option maxRecDepth 100000 in
theorem kX4_hour (l : Launch) (G : xG) (z : Nat) (σ : FD) (xt : Int32) (t : Int) (e_xt : xt.toInt = t) (xh : Int32) (h : Int) (e_xh : xh.toInt = h) (xw : Int32) (w : Int) (e_xw : xw.toInt = w) (hok : fdOk σ) : Met l yX4_hour wsX4_hour rmX4_hour (va_Pc [.ref z, .int xt, .int xh, .int xw] (zPre G (fun H => SFP G H z σ))) (zS (fun v => v.toInt = a_hour σ t h w)) 0 0 zno := by
  refine z_ofW (cc := cX4_hour) (maxL := 6) (ret := some .int) (by decide +kernel) rfl (Nat.le_of_ble_eq_true rfl) ?_
  intro p e s m below meth c hx hb hml hr hts hown hlocks hK hP ls hl
  have hF := hP
  have hown : s.vm.findClass RX4 = some m.cls := hown
  have hl : lv_has ls 6 [(0, .ref z), (1, .int xt), (2, .int xh), (3, .int xw)] := hl
  have hok1 := hok.1
  have hokh := hok1.1
  refine lv_iload_n hx hb dX4_hour_0 rfl (lv_at hl 1 rfl) ?_
  refine z_cS (As := [.int xt]) (rest := []) ⟨hx, hb, hml, hown, hts⟩ (kX4_isStation l G xt t e_xt) (va_cwS 1 hts gX4_hour_X4_isStation rfl rfl rfl hyX4_isStation ⟨Nat.le_of_ble_eq_true rfl, Nat.le_of_ble_eq_true rfl⟩) hK trivial rfl hl.1 rfl (Nat.le_of_ble_eq_true rfl) dX4_hour_1 ⟨Nat.zero_le _, Nat.zero_le _⟩ (fun z1 e1 => ?_)
  have e1 : isB z1 (0 ≤ t ∧ t < 3) := e1
  refine z_ifb_ne (tgt := 9) hx hb e1 dX4_hour_4 (by decide) (fun c_2 => ?_) (fun c_2 => ?_)
  · have hgo := hok1.2.2 t.toNat (by omega)
    have hgb := hgo.1
    have hg2 := hgo.2.1
    have hg3 := hgo.2.2.1
    have hsm := hgo.small
    have hq1 := hsm.read h
    have hq2 := hsm.cord h
    have hq3 := hsm.val h
    refine lv_iload_n hx hb dX4_hour_9 rfl (lv_at hl 2 rfl) ?_
    refine z_if_lt (tgt := 22) hx hb e_xh dX4_hour_10 (by decide) (fun c_3 => ?_) (fun c_3 => ?_)
    · refine lv_bipush (v := (-2 : Int32)) hx hb dX4_hour_22 (by decide) ?_
      exact z_ri (v := (-2 : Int32)) hx hb hr hlocks (show (-2 : Int32).toInt = a_hour σ t h w from (by unfold a_hour hrW; (repeat' split) <;> first | rfl | omega | contradiction | assumption)) dX4_hour_24
    · refine lv_iload_n hx hb dX4_hour_13 rfl (lv_at hl 3 rfl) ?_
      refine lv_iconst (v := (0 : Int32)) hx hb dX4_hour_14 (by decide) ?_
      refine lv_iconst (v := (4 : Int32)) hx hb dX4_hour_15 (by decide) ?_
      refine z_cS (As := [.int xw, .int (0 : Int32), .int (4 : Int32)]) (rest := []) ⟨hx, hb, hml, hown, hts⟩ (kX4_isWithin l G xw w e_xw (0 : Int32) (0 : Int) kI_0 (4 : Int32) (4 : Int) kI_4) (va_cwS 3 hts gX4_hour_X4_isWithin rfl rfl rfl hyX4_isWithin ⟨Nat.le_of_ble_eq_true rfl, Nat.le_of_ble_eq_true rfl⟩) hK trivial rfl hl.1 rfl (Nat.le_of_ble_eq_true rfl) dX4_hour_16 ⟨Nat.zero_le _, Nat.zero_le _⟩ (fun z4 e4 => ?_)
      have e4 : isB z4 ((0 : Int) ≤ w ∧ w ≤ (4 : Int)) := e4
      refine z_ifb_ne (tgt := 25) hx hb e4 dX4_hour_19 (by decide) (fun c_5 => ?_) (fun c_5 => ?_)
      · refine lv_iload_n hx hb dX4_hour_25 rfl (lv_at hl 2 rfl) ?_
        refine lv_aload_n hx hb dX4_hour_26 rfl (lv_at hl 0 rfl) ?_
        have hN6 : ST G s.heap (z + 1) σ.1 := hF.now
        refine z_get hx hb hts iwX4_hour_4 hown hK hF.1 rfl 0 (by decide) flX4_hour_10 rfl (v := .ref (z + 1)) rfl dX4_hour_27 ?_
        refine z_get hx hb hts iwX4_hour_2 hown hK hN6.1 rfl 0 (by decide) flX4_hour_34 rfl (v := .int σ.1.1) rfl dX4_hour_30 ?_
        refine z_icmp_lt (tgt := 39) hx hb e_xh rfl dX4_hour_33 (by decide) (fun c_7 => ?_) (fun c_7 => ?_)
        · refine lv_aload_n hx hb dX4_hour_39 rfl (lv_at hl 0 rfl) ?_
          refine z_get hx hb hts iwX4_hour_4 hown hK hF.1 rfl 0 (by decide) flX4_hour_10 rfl (v := .ref (z + 1)) rfl dX4_hour_40 ?_
          refine z_get hx hb hts iwX4_hour_2 hown hK hN6.1 rfl 2 (by decide) flX4_hour_66 rfl (v := .ref ((z + 1) + 5)) rfl dX4_hour_43 ?_
          refine lv_iload_n hx hb dX4_hour_46 rfl (lv_at hl 1 rfl) ?_
          have hJ8 : GA G s.heap ((z + 1) + 6 + 4 * t.toNat) (σ.1.2.2 t.toNat) := hN6.gauge (i := t.toNat) (by omega)
          refine z_aald (b := (z + 1) + 6 + 4 * t.toNat) hx hb hK 3 hN6.2.2.1 rfl e_xt (by omega) rfl dX4_hour_47 ?_
          refine lv_astore hx hb dX4_hour_48 hl (by decide) rfl (fun ls hl => ?_)
          have hl : lv_has ls 6 [(4, .ref ((z + 1) + 6 + 4 * t.toNat)), (0, .ref z), (1, .int xt), (2, .int xh), (3, .int xw)] := hl
          refine lv_aload hx hb dX4_hour_50 (lv_at hl 0 rfl) ?_
          refine lv_iload_n hx hb dX4_hour_52 rfl (lv_at hl 3 rfl) ?_
          refine z_cV (As := [.int xh]) (rest := []) ⟨hx, hb, hml, hown, hts⟩ (kX0_kindAt l G ((z + 1) + 6 + 4 * t.toNat) (σ.1.2.2 t.toNat) xh h e_xh) (cwV 1 hts gX4_hour_X0_kindAt rfl rfl rfl hyX0_kindAt ⟨Nat.le_of_ble_eq_true rfl, Nat.le_of_ble_eq_true rfl⟩) hK hJ8 hJ8.1 rfl rfl hl.1 rfl (Nat.le_of_ble_eq_true rfl) dX4_hour_53 ⟨Nat.zero_le _, Nat.zero_le _⟩ (fun z9 e9 => ?_)
          have e9 : z9.toInt = kindZ (σ.1.2.2 t.toNat) h := e9
          refine lv_istore hx hb dX4_hour_56 hl (by decide) rfl (fun ls hl => ?_)
          have hl : lv_has ls 6 [(5, .int z9), (4, .ref ((z + 1) + 6 + 4 * t.toNat)), (0, .ref z), (1, .int xt), (2, .int xh), (3, .int xw)] := hl
          refine lv_iload_n hx hb dX4_hour_58 rfl (lv_at hl 5 rfl) ?_
          rcases (show w < 0 ∨ 3 < w ∨ w = 0 ∨ w = 1 ∨ w = 2 ∨ w = 3 from by omega) with c_10 | c_10 | c_10 | c_10 | c_10 | c_10
          · refine lv_tableOut (tgt := 156) hx hb dX4_hour_59 (by rw [e_xw]; omega) (by decide) ?_
            refine lv_iload hx hb dX4_hour_156 (lv_at hl 0 rfl) ?_
            exact z_ri (v := z9) hx hb hr hlocks (show z9.toInt = a_hour σ t h w from (by unfold a_hour hrW; (repeat' split) <;> first | rfl | omega | contradiction | assumption)) dX4_hour_158
          · refine lv_tableOut (tgt := 156) hx hb dX4_hour_59 (by rw [e_xw]; omega) (by decide) ?_
            refine lv_iload hx hb dX4_hour_156 (lv_at hl 0 rfl) ?_
            exact z_ri (v := z9) hx hb hr hlocks (show z9.toInt = a_hour σ t h w from (by unfold a_hour hrW; (repeat' split) <;> first | rfl | omega | contradiction | assumption)) dX4_hour_158
          · refine lv_tableIn (off := 29) (tgt := 88) hx hb dX4_hour_59 (by rw [e_xw]; omega) (by rw [e_xw]; omega) (by rw [e_xw, c_10]; rfl) (by decide) ?_
            refine lv_iload hx hb dX4_hour_88 (lv_at hl 0 rfl) ?_
            refine z_if_ne (tgt := 105) hx hb e9 dX4_hour_90 (by decide) (fun c_11 => ?_) (fun c_11 => ?_)
            · refine lv_bipush (v := (-5 : Int32)) hx hb dX4_hour_105 (by decide) ?_
              exact z_ri (v := (-5 : Int32)) hx hb hr hlocks (show (-5 : Int32).toInt = a_hour σ t h w from (by unfold a_hour hrW; (repeat' split) <;> first | rfl | omega | contradiction | assumption)) dX4_hour_107
            · refine lv_aload hx hb dX4_hour_93 (lv_at hl 1 rfl) ?_
              refine lv_iload_n hx hb dX4_hour_95 rfl (lv_at hl 4 rfl) ?_
              refine z_cV (As := [.int xh]) (rest := []) ⟨hx, hb, hml, hown, hts⟩ (kX0_readingAt l G ((z + 1) + 6 + 4 * t.toNat) (σ.1.2.2 t.toNat) xh h e_xh) (cwV 1 hts gX4_hour_X0_readingAt rfl rfl rfl hyX0_readingAt ⟨Nat.le_of_ble_eq_true rfl, Nat.le_of_ble_eq_true rfl⟩) hK hJ8 hJ8.1 rfl rfl hl.1 rfl (Nat.le_of_ble_eq_true rfl) dX4_hour_96 ⟨Nat.zero_le _, Nat.zero_le _⟩ (fun z12 e12 => ?_)
              have e12 : z12.toInt = readZ (σ.1.2.2 t.toNat) h := e12
              refine lv_ldc (v := (100000 : Int32)) hx hb hown (hts _ flX4_hour_c61) dX4_hour_99 ?_
              refine z_iadd hx hb e12 kI_100000 dX4_hour_101 (by omega) (fun z13 e13 => ?_)
              refine lv_goto (tgt := 107) hx hb dX4_hour_102 (by decide) ?_
              exact z_ri (v := z13) hx hb hr hlocks (show z13.toInt = a_hour σ t h w from (by unfold a_hour hrW; (repeat' split) <;> first | rfl | omega | contradiction | assumption)) dX4_hour_107
          · refine lv_tableIn (off := 49) (tgt := 108) hx hb dX4_hour_59 (by rw [e_xw]; omega) (by rw [e_xw]; omega) (by rw [e_xw, c_10]; rfl) (by decide) ?_
            refine lv_iload hx hb dX4_hour_108 (lv_at hl 0 rfl) ?_
            refine z_if_ne (tgt := 125) hx hb e9 dX4_hour_110 (by decide) (fun c_14 => ?_) (fun c_14 => ?_)
            · refine lv_bipush (v := (-5 : Int32)) hx hb dX4_hour_125 (by decide) ?_
              exact z_ri (v := (-5 : Int32)) hx hb hr hlocks (show (-5 : Int32).toInt = a_hour σ t h w from (by unfold a_hour hrW; (repeat' split) <;> first | rfl | omega | contradiction | assumption)) dX4_hour_127
            · refine lv_aload hx hb dX4_hour_113 (lv_at hl 1 rfl) ?_
              refine lv_iload_n hx hb dX4_hour_115 rfl (lv_at hl 4 rfl) ?_
              refine z_cV (As := [.int xh]) (rest := []) ⟨hx, hb, hml, hown, hts⟩ (kX0_correctedAt l G ((z + 1) + 6 + 4 * t.toNat) (σ.1.2.2 t.toNat) xh h e_xh hsm) (cwV 1 hts gX4_hour_X0_correctedAt rfl rfl rfl hyX0_correctedAt ⟨Nat.le_of_ble_eq_true rfl, Nat.le_of_ble_eq_true rfl⟩) hK hJ8 hJ8.1 rfl rfl hl.1 rfl (Nat.le_of_ble_eq_true rfl) dX4_hour_116 ⟨Nat.zero_le _, Nat.zero_le _⟩ (fun z15 e15 => ?_)
              have e15 : z15.toInt = cordZ (σ.1.2.2 t.toNat) h := e15
              refine lv_ldc (v := (100000 : Int32)) hx hb hown (hts _ flX4_hour_c61) dX4_hour_119 ?_
              refine z_iadd hx hb e15 kI_100000 dX4_hour_121 (by omega) (fun z16 e16 => ?_)
              refine lv_goto (tgt := 127) hx hb dX4_hour_122 (by decide) ?_
              exact z_ri (v := z16) hx hb hr hlocks (show z16.toInt = a_hour σ t h w from (by unfold a_hour hrW; (repeat' split) <;> first | rfl | omega | contradiction | assumption)) dX4_hour_127
          · refine lv_tableIn (off := 69) (tgt := 128) hx hb dX4_hour_59 (by rw [e_xw]; omega) (by rw [e_xw]; omega) (by rw [e_xw, c_10]; rfl) (by decide) ?_
            refine lv_iload hx hb dX4_hour_128 (lv_at hl 0 rfl) ?_
            refine lv_iconst (v := (2 : Int32)) hx hb dX4_hour_130 (by decide) ?_
            refine z_icmp_ne (tgt := 146) hx hb e9 kI_2 dX4_hour_131 (by decide) (fun c_17 => ?_) (fun c_17 => ?_)
            · refine lv_bipush (v := (-5 : Int32)) hx hb dX4_hour_146 (by decide) ?_
              exact z_ri (v := (-5 : Int32)) hx hb hr hlocks (show (-5 : Int32).toInt = a_hour σ t h w from (by unfold a_hour hrW; (repeat' split) <;> first | rfl | omega | contradiction | assumption)) dX4_hour_148
            · refine lv_aload hx hb dX4_hour_134 (lv_at hl 1 rfl) ?_
              refine lv_iload_n hx hb dX4_hour_136 rfl (lv_at hl 4 rfl) ?_
              refine z_cV (As := [.int xh]) (rest := []) ⟨hx, hb, hml, hown, hts⟩ (kX0_valueAt l G ((z + 1) + 6 + 4 * t.toNat) (σ.1.2.2 t.toNat) xh h e_xh hsm) (cwV 1 hts gX4_hour_X0_valueAt rfl rfl rfl hyX0_valueAt ⟨Nat.le_of_ble_eq_true rfl, Nat.le_of_ble_eq_true rfl⟩) hK hJ8 hJ8.1 rfl rfl hl.1 rfl (Nat.le_of_ble_eq_true rfl) dX4_hour_137 ⟨Nat.zero_le _, Nat.zero_le _⟩ (fun z18 e18 => ?_)
              have e18 : z18.toInt = valZ (σ.1.2.2 t.toNat) h := e18
              refine lv_ldc (v := (100000 : Int32)) hx hb hown (hts _ flX4_hour_c61) dX4_hour_140 ?_
              refine z_iadd hx hb e18 kI_100000 dX4_hour_142 (by omega) (fun z19 e19 => ?_)
              refine lv_goto (tgt := 148) hx hb dX4_hour_143 (by decide) ?_
              exact z_ri (v := z19) hx hb hr hlocks (show z19.toInt = a_hour σ t h w from (by unfold a_hour hrW; (repeat' split) <;> first | rfl | omega | contradiction | assumption)) dX4_hour_148
          · refine lv_tableIn (off := 90) (tgt := 149) hx hb dX4_hour_59 (by rw [e_xw]; omega) (by rw [e_xw]; omega) (by rw [e_xw, c_10]; rfl) (by decide) ?_
            refine lv_aload hx hb dX4_hour_149 (lv_at hl 1 rfl) ?_
            refine lv_iload_n hx hb dX4_hour_151 rfl (lv_at hl 4 rfl) ?_
            refine z_cV (As := [.int xh]) (rest := []) ⟨hx, hb, hml, hown, hts⟩ (kX0_correctionAt l G ((z + 1) + 6 + 4 * t.toNat) (σ.1.2.2 t.toNat) xh h e_xh) (cwV 1 hts gX4_hour_X0_correctionAt rfl rfl rfl hyX0_correctionAt ⟨Nat.le_of_ble_eq_true rfl, Nat.le_of_ble_eq_true rfl⟩) hK hJ8 hJ8.1 rfl rfl hl.1 rfl (Nat.le_of_ble_eq_true rfl) dX4_hour_152 ⟨Nat.zero_le _, Nat.zero_le _⟩ (fun z20 e20 => ?_)
            have e20 : z20.toInt = corrZ (σ.1.2.2 t.toNat) h := e20
            exact z_ri (v := z20) hx hb hr hlocks (show z20.toInt = a_hour σ t h w from (by unfold a_hour hrW; (repeat' split) <;> first | rfl | omega | contradiction | assumption)) dX4_hour_155
        · refine lv_bipush (v := (-5 : Int32)) hx hb dX4_hour_36 (by decide) ?_
          exact z_ri (v := (-5 : Int32)) hx hb hr hlocks (show (-5 : Int32).toInt = a_hour σ t h w from (by unfold a_hour hrW; (repeat' split) <;> first | rfl | omega | contradiction | assumption)) dX4_hour_38
      · refine lv_bipush (v := (-2 : Int32)) hx hb dX4_hour_22 (by decide) ?_
        exact z_ri (v := (-2 : Int32)) hx hb hr hlocks (show (-2 : Int32).toInt = a_hour σ t h w from (by unfold a_hour hrW; (repeat' split) <;> first | rfl | omega | contradiction | assumption)) dX4_hour_24
  · refine lv_iconst (v := (-1 : Int32)) hx hb dX4_hour_7 (by decide) ?_
    exact z_ri (v := (-1 : Int32)) hx hb hr hlocks (show (-1 : Int32).toInt = a_hour σ t h w from (by unfold a_hour hrW; (repeat' split) <;> first | rfl | omega | contradiction | assumption)) dX4_hour_8

abbrev rmX4_gap : Room := { frames := 5, cells := 0, slots := 0, locals := 109 }
theorem iwX4_gap_2 : ∀ w ∈ wsX20, w ∈ wsX4_gap := fun _ h => List.mem_cons_of_mem _ (List.mem_append_left _ (List.mem_append_right _ h))
theorem iwX4_gap_4 : ∀ w ∈ wsX40, w ∈ wsX4_gap := fun _ h => List.mem_cons_of_mem _ (List.mem_append_left _ (List.mem_append_left _ (List.mem_append_right _ h)))
theorem flX4_gap_10 : Cond.fieldLink RX4 10 "SiltedFloats" "now" "LSiltedFloats$State;" ∈ wsX4_gap := by decide +kernel
theorem flX4_gap_66 : Cond.fieldLink RX4 66 "SiltedFloats$State" "gauges" "[LSiltedFloats$Gauge;" ∈ wsX4_gap := by decide +kernel
theorem hyX4_gap : yX4_gap.cls = RX4 ∧ yX4_gap.cls ≠ "java/lang/invoke/MethodHandle" ∧ yX4_gap.cls ≠ "java/lang/invoke/VarHandle" ∧ (parseMethodDescriptor yX4_gap.desc).map (fun d => d.parameters.length) = some 3 := by decide +kernel
set_option maxHeartbeats 4000000 in
set_option maxRecDepth 100000 in
theorem kX4_gap (l : Launch) (G : xG) (z : Nat) (σ : FD) (xt : Int32) (t : Int) (e_xt : xt.toInt = t) (xk : Int32) (k : Int) (e_xk : xk.toInt = k) (xw : Int32) (w : Int) (e_xw : xw.toInt = w) (hok : fdOk σ) : Met l yX4_gap wsX4_gap rmX4_gap (va_Pc [.ref z, .int xt, .int xk, .int xw] (zPre G (fun H => SFP G H z σ))) (zS (fun v => v.toInt = a_gap σ t k w)) 0 0 zno := by
  refine z_ofW (cc := cX4_gap) (maxL := 7) (ret := some .int) (by decide +kernel) rfl (Nat.le_of_ble_eq_true rfl) ?_
  intro p e s m below meth c hx hb hml hr hts hown hlocks hK hP ls hl
  have hF := hP
  have hown : s.vm.findClass RX4 = some m.cls := hown
  have hl : lv_has ls 7 [(0, .ref z), (1, .int xt), (2, .int xk), (3, .int xw)] := hl
  have hok1 := hok.1
  have hokh := hok1.1
  refine lv_iload_n hx hb dX4_gap_0 rfl (lv_at hl 1 rfl) ?_
  refine z_cS (As := [.int xt]) (rest := []) ⟨hx, hb, hml, hown, hts⟩ (kX4_isStation l G xt t e_xt) (va_cwS 1 hts gX4_gap_X4_isStation rfl rfl rfl hyX4_isStation ⟨Nat.le_of_ble_eq_true rfl, Nat.le_of_ble_eq_true rfl⟩) hK trivial rfl hl.1 rfl (Nat.le_of_ble_eq_true rfl) dX4_gap_1 ⟨Nat.zero_le _, Nat.zero_le _⟩ (fun z1 e1 => ?_)
  have e1 : isB z1 (0 ≤ t ∧ t < 3) := e1
  refine z_ifb_eq (tgt := 23) hx hb e1 dX4_gap_4 (by decide) (fun c_2 => ?_) (fun c_2 => ?_)
  · refine lv_iconst (v := (-1 : Int32)) hx hb dX4_gap_23 (by decide) ?_
    exact z_ri (v := (-1 : Int32)) hx hb hr hlocks (show (-1 : Int32).toInt = a_gap σ t k w from (by unfold a_gap gpW; (repeat' split) <;> first | rfl | omega | contradiction | assumption)) dX4_gap_24
  · have hgo := hok1.2.2 t.toNat (by omega)
    have hgb := hgo.1
    have hg2 := hgo.2.1
    have hg3 := hgo.2.2.1
    refine lv_aload_n hx hb dX4_gap_7 rfl (lv_at hl 0 rfl) ?_
    have hN3 : ST G s.heap (z + 1) σ.1 := hF.now
    refine z_get hx hb hts iwX4_gap_4 hown hK hF.1 rfl 0 (by decide) flX4_gap_10 rfl (v := .ref (z + 1)) rfl dX4_gap_8 ?_
    refine z_get hx hb hts iwX4_gap_2 hown hK hN3.1 rfl 2 (by decide) flX4_gap_66 rfl (v := .ref ((z + 1) + 5)) rfl dX4_gap_11 ?_
    refine lv_iload_n hx hb dX4_gap_14 rfl (lv_at hl 1 rfl) ?_
    have hJ4 : GA G s.heap ((z + 1) + 6 + 4 * t.toNat) (σ.1.2.2 t.toNat) := hN3.gauge (i := t.toNat) (by omega)
    refine z_aald (b := (z + 1) + 6 + 4 * t.toNat) hx hb hK 3 hN3.2.2.1 rfl e_xt (by omega) rfl dX4_gap_15 ?_
    refine lv_iload_n hx hb dX4_gap_16 rfl (lv_at hl 2 rfl) ?_
    refine z_cV (As := [.int xk]) (rest := []) ⟨hx, hb, hml, hown, hts⟩ (kX0_hasGap l G ((z + 1) + 6 + 4 * t.toNat) (σ.1.2.2 t.toNat) xk k e_xk) (cwV 1 hts gX4_gap_X0_hasGap rfl rfl rfl hyX0_hasGap ⟨Nat.le_of_ble_eq_true rfl, Nat.le_of_ble_eq_true rfl⟩) hK hJ4 hJ4.1 rfl rfl hl.1 rfl (Nat.le_of_ble_eq_true rfl) dX4_gap_17 ⟨Nat.zero_le _, Nat.zero_le _⟩ (fun z5 e5 => ?_)
    have e5 : isB z5 (fgZ (σ.1.2.2 t.toNat) k ≠ -1) := e5
    refine z_ifb_ne (tgt := 25) hx hb e5 dX4_gap_20 (by decide) (fun c_6 => ?_) (fun c_6 => ?_)
    · have hfb := fgZ_b (σ.1.2.2 t.toNat) k
      have hhb := hbZ_b (σ.1.2.2 t.toNat) (show fgZ (σ.1.2.2 t.toNat) k ≤ 120 by omega)
      refine lv_aload_n hx hb dX4_gap_25 rfl (lv_at hl 0 rfl) ?_
      refine z_get hx hb hts iwX4_gap_4 hown hK hF.1 rfl 0 (by decide) flX4_gap_10 rfl (v := .ref (z + 1)) rfl dX4_gap_26 ?_
      refine z_get hx hb hts iwX4_gap_2 hown hK hN3.1 rfl 2 (by decide) flX4_gap_66 rfl (v := .ref ((z + 1) + 5)) rfl dX4_gap_29 ?_
      refine lv_iload_n hx hb dX4_gap_32 rfl (lv_at hl 1 rfl) ?_
      refine z_aald (b := (z + 1) + 6 + 4 * t.toNat) hx hb hK 3 hN3.2.2.1 rfl e_xt (by omega) rfl dX4_gap_33 ?_
      refine lv_astore hx hb dX4_gap_34 hl (by decide) rfl (fun ls hl => ?_)
      have hl : lv_has ls 7 [(4, .ref ((z + 1) + 6 + 4 * t.toNat)), (0, .ref z), (1, .int xt), (2, .int xk), (3, .int xw)] := hl
      refine lv_aload hx hb dX4_gap_36 (lv_at hl 0 rfl) ?_
      refine lv_iload_n hx hb dX4_gap_38 rfl (lv_at hl 3 rfl) ?_
      refine z_cV (As := [.int xk]) (rest := []) ⟨hx, hb, hml, hown, hts⟩ (kX0_firstHourOfGap l G ((z + 1) + 6 + 4 * t.toNat) (σ.1.2.2 t.toNat) xk k e_xk) (cwV 1 hts gX4_gap_X0_firstHourOfGap rfl rfl rfl hyX0_firstHourOfGap ⟨Nat.le_of_ble_eq_true rfl, Nat.le_of_ble_eq_true rfl⟩) hK hJ4 hJ4.1 rfl rfl hl.1 rfl (Nat.le_of_ble_eq_true rfl) dX4_gap_39 ⟨Nat.zero_le _, Nat.zero_le _⟩ (fun z7 e7 => ?_)
      have e7 : z7.toInt = fgZ (σ.1.2.2 t.toNat) k := e7
      refine lv_istore hx hb dX4_gap_42 hl (by decide) rfl (fun ls hl => ?_)
      have hl : lv_has ls 7 [(5, .int z7), (4, .ref ((z + 1) + 6 + 4 * t.toNat)), (0, .ref z), (1, .int xt), (2, .int xk), (3, .int xw)] := hl
      refine lv_aload hx hb dX4_gap_44 (lv_at hl 1 rfl) ?_
      refine lv_iload hx hb dX4_gap_46 (lv_at hl 0 rfl) ?_
      refine z_cV (As := [.int z7]) (rest := []) ⟨hx, hb, hml, hown, hts⟩ (kX0_hourBehindGapFrom l G ((z + 1) + 6 + 4 * t.toNat) (σ.1.2.2 t.toNat) z7 (fgZ (σ.1.2.2 t.toNat) k) e7 (by first | assumption | omega)) (cwV 1 hts gX4_gap_X0_hourBehindGapFrom rfl rfl rfl hyX0_hourBehindGapFrom ⟨Nat.le_of_ble_eq_true rfl, Nat.le_of_ble_eq_true rfl⟩) hK hJ4 hJ4.1 rfl rfl hl.1 rfl (Nat.le_of_ble_eq_true rfl) dX4_gap_48 ⟨Nat.zero_le _, Nat.zero_le _⟩ (fun z8 e8 => ?_)
      have e8 : z8.toInt = hbZ (σ.1.2.2 t.toNat) (fgZ (σ.1.2.2 t.toNat) k) := e8
      refine lv_iconst (v := (1 : Int32)) hx hb dX4_gap_51 (by decide) ?_
      refine z_isub hx hb e8 kI_1 dX4_gap_52 (by omega) (fun z9 e9 => ?_)
      refine lv_istore hx hb dX4_gap_53 hl (by decide) rfl (fun ls hl => ?_)
      have hl : lv_has ls 7 [(6, .int z9), (5, .int z7), (4, .ref ((z + 1) + 6 + 4 * t.toNat)), (0, .ref z), (1, .int xt), (2, .int xk), (3, .int xw)] := hl
      refine lv_iload_n hx hb dX4_gap_55 rfl (lv_at hl 6 rfl) ?_
      rcases (show w < 0 ∨ 3 < w ∨ w = 0 ∨ w = 1 ∨ w = 2 ∨ w = 3 from by omega) with c_10 | c_10 | c_10 | c_10 | c_10 | c_10
      · refine lv_tableOut (tgt := 119) hx hb dX4_gap_56 (by rw [e_xw]; omega) (by decide) ?_
        refine lv_bipush (v := (-2 : Int32)) hx hb dX4_gap_119 (by decide) ?_
        exact z_ri (v := (-2 : Int32)) hx hb hr hlocks (show (-2 : Int32).toInt = a_gap σ t k w from (by unfold a_gap gpW; (repeat' split) <;> first | rfl | omega | contradiction | assumption)) dX4_gap_121
      · refine lv_tableOut (tgt := 119) hx hb dX4_gap_56 (by rw [e_xw]; omega) (by decide) ?_
        refine lv_bipush (v := (-2 : Int32)) hx hb dX4_gap_119 (by decide) ?_
        exact z_ri (v := (-2 : Int32)) hx hb hr hlocks (show (-2 : Int32).toInt = a_gap σ t k w from (by unfold a_gap gpW; (repeat' split) <;> first | rfl | omega | contradiction | assumption)) dX4_gap_121
      · refine lv_tableIn (off := 32) (tgt := 88) hx hb dX4_gap_56 (by rw [e_xw]; omega) (by rw [e_xw]; omega) (by rw [e_xw, c_10]; rfl) (by decide) ?_
        refine lv_iload hx hb dX4_gap_88 (lv_at hl 1 rfl) ?_
        exact z_ri (v := z7) hx hb hr hlocks (show z7.toInt = a_gap σ t k w from (by unfold a_gap gpW; (repeat' split) <;> first | rfl | omega | contradiction | assumption)) dX4_gap_90
      · refine lv_tableIn (off := 35) (tgt := 91) hx hb dX4_gap_56 (by rw [e_xw]; omega) (by rw [e_xw]; omega) (by rw [e_xw, c_10]; rfl) (by decide) ?_
        refine lv_iload hx hb dX4_gap_91 (lv_at hl 0 rfl) ?_
        exact z_ri (v := z9) hx hb hr hlocks (show z9.toInt = a_gap σ t k w from (by unfold a_gap gpW; (repeat' split) <;> first | rfl | omega | contradiction | assumption)) dX4_gap_93
      · refine lv_tableIn (off := 38) (tgt := 94) hx hb dX4_gap_56 (by rw [e_xw]; omega) (by rw [e_xw]; omega) (by rw [e_xw, c_10]; rfl) (by decide) ?_
        refine lv_aload hx hb dX4_gap_94 (lv_at hl 2 rfl) ?_
        refine lv_iload_n hx hb dX4_gap_96 rfl (lv_at hl 5 rfl) ?_
        refine z_cV (As := [.int xk]) (rest := []) ⟨hx, hb, hml, hown, hts⟩ (kX0_isInner l G ((z + 1) + 6 + 4 * t.toNat) (σ.1.2.2 t.toNat) xk k e_xk) (cwV 1 hts gX4_gap_X0_isInner rfl rfl rfl hyX0_isInner ⟨Nat.le_of_ble_eq_true rfl, Nat.le_of_ble_eq_true rfl⟩) hK hJ4 hJ4.1 rfl rfl hl.1 rfl (Nat.le_of_ble_eq_true rfl) dX4_gap_97 ⟨Nat.zero_le _, Nat.zero_le _⟩ (fun z11 e11 => ?_)
        have e11 : isB z11 (kindZ (σ.1.2.2 t.toNat) (fgZ (σ.1.2.2 t.toNat) k - 1) = 0 ∧ kindZ (σ.1.2.2 t.toNat) (hbZ (σ.1.2.2 t.toNat) (fgZ (σ.1.2.2 t.toNat) k)) = 0) := e11
        refine z_ifb_eq (tgt := 107) hx hb e11 dX4_gap_100 (by decide) (fun c_12 => ?_) (fun c_12 => ?_)
        · refine lv_iconst (v := (0 : Int32)) hx hb dX4_gap_107 (by decide) ?_
          exact z_ri (v := (0 : Int32)) hx hb hr hlocks (show (0 : Int32).toInt = a_gap σ t k w from (by unfold a_gap gpW; (repeat' split) <;> first | rfl | omega | contradiction | assumption)) dX4_gap_108
        · refine lv_iconst (v := (1 : Int32)) hx hb dX4_gap_103 (by decide) ?_
          refine lv_goto (tgt := 108) hx hb dX4_gap_104 (by decide) ?_
          exact z_ri (v := (1 : Int32)) hx hb hr hlocks (show (1 : Int32).toInt = a_gap σ t k w from (by unfold a_gap gpW; (repeat' split) <;> first | rfl | omega | contradiction | assumption)) dX4_gap_108
      · refine lv_tableIn (off := 53) (tgt := 109) hx hb dX4_gap_56 (by rw [e_xw]; omega) (by rw [e_xw]; omega) (by rw [e_xw, c_10]; rfl) (by decide) ?_
        refine lv_aload hx hb dX4_gap_109 (lv_at hl 2 rfl) ?_
        refine lv_iload hx hb dX4_gap_111 (lv_at hl 1 rfl) ?_
        refine lv_iload hx hb dX4_gap_113 (lv_at hl 0 rfl) ?_
        refine z_cV (As := [.int z7, .int z9]) (rest := []) ⟨hx, hb, hml, hown, hts⟩ (kX0_mendedWithin l G ((z + 1) + 6 + 4 * t.toNat) (σ.1.2.2 t.toNat) z7 (fgZ (σ.1.2.2 t.toNat) k) e7 z9 ((hbZ (σ.1.2.2 t.toNat) (fgZ (σ.1.2.2 t.toNat) k)) - (1 : Int)) e9 (by first | assumption | omega)) (cwV 2 hts gX4_gap_X0_mendedWithin rfl rfl rfl hyX0_mendedWithin ⟨Nat.le_of_ble_eq_true rfl, Nat.le_of_ble_eq_true rfl⟩) hK hJ4 hJ4.1 rfl rfl hl.1 rfl (Nat.le_of_ble_eq_true rfl) dX4_gap_115 ⟨Nat.zero_le _, Nat.zero_le _⟩ (fun z13 e13 => ?_)
        have e13 : z13.toInt = sumZ (fun i => if kindZ (σ.1.2.2 t.toNat) i = 2 then 1 else 0) (fgZ (σ.1.2.2 t.toNat) k) (((hbZ (σ.1.2.2 t.toNat) (fgZ (σ.1.2.2 t.toNat) k)) - (1 : Int)) + 1 - (fgZ (σ.1.2.2 t.toNat) k)).toNat := e13
        have e13 : z13.toInt = mwZ (σ.1.2.2 t.toNat) (fgZ (σ.1.2.2 t.toNat) k) (hbZ (σ.1.2.2 t.toNat) (fgZ (σ.1.2.2 t.toNat) k)) := by rw [e13]; unfold mwZ; congr 1; omega
        exact z_ri (v := z13) hx hb hr hlocks (show z13.toInt = a_gap σ t k w from (by unfold a_gap gpW; (repeat' split) <;> first | rfl | omega | contradiction | assumption)) dX4_gap_118
    · refine lv_iconst (v := (-1 : Int32)) hx hb dX4_gap_23 (by decide) ?_
      exact z_ri (v := (-1 : Int32)) hx hb hr hlocks (show (-1 : Int32).toInt = a_gap σ t k w from (by unfold a_gap gpW; (repeat' split) <;> first | rfl | omega | contradiction | assumption)) dX4_gap_24

abbrev rmX4_checkMending : Room := { frames := 5, cells := 0, slots := 0, locals := 109 }
theorem iwX4_checkMending_2 : ∀ w ∈ wsX20, w ∈ wsX4_checkMending := fun _ h => List.mem_cons_of_mem _ (List.mem_append_left _ (List.mem_append_right _ h))
theorem iwX4_checkMending_4 : ∀ w ∈ wsX40, w ∈ wsX4_checkMending := fun _ h => List.mem_cons_of_mem _ (List.mem_append_left _ (List.mem_append_left _ (List.mem_append_right _ h)))
theorem flX4_checkMending_10 : Cond.fieldLink RX4 10 "SiltedFloats" "now" "LSiltedFloats$State;" ∈ wsX4_checkMending := by decide +kernel
theorem flX4_checkMending_66 : Cond.fieldLink RX4 66 "SiltedFloats$State" "gauges" "[LSiltedFloats$Gauge;" ∈ wsX4_checkMending := by decide +kernel
theorem hyX4_checkMending : yX4_checkMending.cls = RX4 ∧ yX4_checkMending.cls ≠ "java/lang/invoke/MethodHandle" ∧ yX4_checkMending.cls ≠ "java/lang/invoke/VarHandle" ∧ (parseMethodDescriptor yX4_checkMending.desc).map (fun d => d.parameters.length) = some 4 := by decide +kernel
set_option maxHeartbeats 4000000 in
set_option maxRecDepth 100000 in
theorem kX4_checkMending (l : Launch) (G : xG) (z : Nat) (σ : FD) (xt : Int32) (t : Int) (e_xt : xt.toInt = t) (xk : Int32) (k : Int) (e_xk : xk.toInt = k) (xo : Int32) (o : Int) (e_xo : xo.toInt = o) (xf : Int32) (f : Int) (e_xf : xf.toInt = f) (hok : fdOk σ) : Met l yX4_checkMending wsX4_checkMending rmX4_checkMending (va_Pc [.ref z, .int xt, .int xk, .int xo, .int xf] (zPre G (fun H => SFP G H z σ))) (zS (fun v => v.toInt = ckZ σ t k o f)) 0 0 zno := by
  refine z_ofW (cc := cX4_checkMending) (maxL := 5) (ret := some .int) (by decide +kernel) rfl (Nat.le_of_ble_eq_true rfl) ?_
  intro p e s m below meth c hx hb hml hr hts hown hlocks hK hP ls hl
  have hF := hP
  have hown : s.vm.findClass RX4 = some m.cls := hown
  have hl : lv_has ls 5 [(0, .ref z), (1, .int xt), (2, .int xk), (3, .int xo), (4, .int xf)] := hl
  have hok1 := hok.1
  have hokh := hok1.1
  refine lv_iload_n hx hb dX4_checkMending_0 rfl (lv_at hl 1 rfl) ?_
  refine z_cS (As := [.int xt]) (rest := []) ⟨hx, hb, hml, hown, hts⟩ (kX4_isStation l G xt t e_xt) (va_cwS 1 hts gX4_checkMending_X4_isStation rfl rfl rfl hyX4_isStation ⟨Nat.le_of_ble_eq_true rfl, Nat.le_of_ble_eq_true rfl⟩) hK trivial rfl hl.1 rfl (Nat.le_of_ble_eq_true rfl) dX4_checkMending_1 ⟨Nat.zero_le _, Nat.zero_le _⟩ (fun z1 e1 => ?_)
  have e1 : isB z1 (0 ≤ t ∧ t < 3) := e1
  refine z_ifb_eq (tgt := 30) hx hb e1 dX4_checkMending_4 (by decide) (fun c_2 => ?_) (fun c_2 => ?_)
  · refine lv_iconst (v := (-1 : Int32)) hx hb dX4_checkMending_30 (by decide) ?_
    exact z_ri (v := (-1 : Int32)) hx hb hr hlocks (show (-1 : Int32).toInt = ckZ σ t k o f from (by unfold ckZ; (repeat' split) <;> first | rfl | omega | contradiction | assumption)) dX4_checkMending_31
  · refine lv_iload_n hx hb dX4_checkMending_7 rfl (lv_at hl 3 rfl) ?_
    refine z_cS (As := [.int xo]) (rest := []) ⟨hx, hb, hml, hown, hts⟩ (kX4_isStation l G xo o e_xo) (va_cwS 1 hts gX4_checkMending_X4_isStation rfl rfl rfl hyX4_isStation ⟨Nat.le_of_ble_eq_true rfl, Nat.le_of_ble_eq_true rfl⟩) hK trivial rfl hl.1 rfl (Nat.le_of_ble_eq_true rfl) dX4_checkMending_8 ⟨Nat.zero_le _, Nat.zero_le _⟩ (fun z3 e3 => ?_)
    have e3 : isB z3 (0 ≤ o ∧ o < 3) := e3
    refine z_ifb_eq (tgt := 30) hx hb e3 dX4_checkMending_11 (by decide) (fun c_4 => ?_) (fun c_4 => ?_)
    · refine lv_iconst (v := (-1 : Int32)) hx hb dX4_checkMending_30 (by decide) ?_
      exact z_ri (v := (-1 : Int32)) hx hb hr hlocks (show (-1 : Int32).toInt = ckZ σ t k o f from (by unfold ckZ; (repeat' split) <;> first | rfl | omega | contradiction | assumption)) dX4_checkMending_31
    · refine lv_aload_n hx hb dX4_checkMending_14 rfl (lv_at hl 0 rfl) ?_
      have hN5 : ST G s.heap (z + 1) σ.1 := hF.now
      refine z_get hx hb hts iwX4_checkMending_4 hown hK hF.1 rfl 0 (by decide) flX4_checkMending_10 rfl (v := .ref (z + 1)) rfl dX4_checkMending_15 ?_
      refine z_get hx hb hts iwX4_checkMending_2 hown hK hN5.1 rfl 2 (by decide) flX4_checkMending_66 rfl (v := .ref ((z + 1) + 5)) rfl dX4_checkMending_18 ?_
      refine lv_iload_n hx hb dX4_checkMending_21 rfl (lv_at hl 1 rfl) ?_
      have hJ6 : GA G s.heap ((z + 1) + 6 + 4 * t.toNat) (σ.1.2.2 t.toNat) := hN5.gauge (i := t.toNat) (by omega)
      refine z_aald (b := (z + 1) + 6 + 4 * t.toNat) hx hb hK 3 hN5.2.2.1 rfl e_xt (by omega) rfl dX4_checkMending_22 ?_
      refine lv_iload_n hx hb dX4_checkMending_23 rfl (lv_at hl 2 rfl) ?_
      refine z_cV (As := [.int xk]) (rest := []) ⟨hx, hb, hml, hown, hts⟩ (kX0_hasGap l G ((z + 1) + 6 + 4 * t.toNat) (σ.1.2.2 t.toNat) xk k e_xk) (cwV 1 hts gX4_checkMending_X0_hasGap rfl rfl rfl hyX0_hasGap ⟨Nat.le_of_ble_eq_true rfl, Nat.le_of_ble_eq_true rfl⟩) hK hJ6 hJ6.1 rfl rfl hl.1 rfl (Nat.le_of_ble_eq_true rfl) dX4_checkMending_24 ⟨Nat.zero_le _, Nat.zero_le _⟩ (fun z7 e7 => ?_)
      have e7 : isB z7 (fgZ (σ.1.2.2 t.toNat) k ≠ -1) := e7
      refine z_ifb_ne (tgt := 32) hx hb e7 dX4_checkMending_27 (by decide) (fun c_8 => ?_) (fun c_8 => ?_)
      · refine lv_iload hx hb dX4_checkMending_32 (lv_at hl 4 rfl) ?_
        refine lv_bipush (v := (-12 : Int32)) hx hb dX4_checkMending_34 (by decide) ?_
        refine lv_bipush (v := (12 : Int32)) hx hb dX4_checkMending_36 (by decide) ?_
        refine z_cS (As := [.int xf, .int (-12 : Int32), .int (12 : Int32)]) (rest := []) ⟨hx, hb, hml, hown, hts⟩ (kX4_isWithin l G xf f e_xf (-12 : Int32) (-12 : Int) kI_m12 (12 : Int32) (12 : Int) kI_12) (va_cwS 3 hts gX4_checkMending_X4_isWithin rfl rfl rfl hyX4_isWithin ⟨Nat.le_of_ble_eq_true rfl, Nat.le_of_ble_eq_true rfl⟩) hK trivial rfl hl.1 rfl (Nat.le_of_ble_eq_true rfl) dX4_checkMending_38 ⟨Nat.zero_le _, Nat.zero_le _⟩ (fun z9 e9 => ?_)
        have e9 : isB z9 ((-12 : Int) ≤ f ∧ f ≤ (12 : Int)) := e9
        refine z_ifb_eq (tgt := 49) hx hb e9 dX4_checkMending_41 (by decide) (fun c_10 => ?_) (fun c_10 => ?_)
        · refine lv_bipush (v := (-2 : Int32)) hx hb dX4_checkMending_49 (by decide) ?_
          exact z_ri (v := (-2 : Int32)) hx hb hr hlocks (show (-2 : Int32).toInt = ckZ σ t k o f from (by unfold ckZ; (repeat' split) <;> first | rfl | omega | contradiction | assumption)) dX4_checkMending_51
        · refine lv_iload_n hx hb dX4_checkMending_44 rfl (lv_at hl 3 rfl) ?_
          refine lv_iload_n hx hb dX4_checkMending_45 rfl (lv_at hl 1 rfl) ?_
          refine z_icmp_ne (tgt := 52) hx hb e_xo e_xt dX4_checkMending_46 (by decide) (fun c_11 => ?_) (fun c_11 => ?_)
          · refine lv_aload_n hx hb dX4_checkMending_52 rfl (lv_at hl 0 rfl) ?_
            refine z_get hx hb hts iwX4_checkMending_4 hown hK hF.1 rfl 0 (by decide) flX4_checkMending_10 rfl (v := .ref (z + 1)) rfl dX4_checkMending_53 ?_
            refine z_get hx hb hts iwX4_checkMending_2 hown hK hN5.1 rfl 2 (by decide) flX4_checkMending_66 rfl (v := .ref ((z + 1) + 5)) rfl dX4_checkMending_56 ?_
            refine lv_iload_n hx hb dX4_checkMending_59 rfl (lv_at hl 1 rfl) ?_
            refine z_aald (b := (z + 1) + 6 + 4 * t.toNat) hx hb hK 3 hN5.2.2.1 rfl e_xt (by omega) rfl dX4_checkMending_60 ?_
            refine lv_iload_n hx hb dX4_checkMending_61 rfl (lv_at hl 2 rfl) ?_
            refine z_cV (As := [.int xk]) (rest := []) ⟨hx, hb, hml, hown, hts⟩ (kX0_isInner l G ((z + 1) + 6 + 4 * t.toNat) (σ.1.2.2 t.toNat) xk k e_xk) (cwV 1 hts gX4_checkMending_X0_isInner rfl rfl rfl hyX0_isInner ⟨Nat.le_of_ble_eq_true rfl, Nat.le_of_ble_eq_true rfl⟩) hK hJ6 hJ6.1 rfl rfl hl.1 rfl (Nat.le_of_ble_eq_true rfl) dX4_checkMending_62 ⟨Nat.zero_le _, Nat.zero_le _⟩ (fun z12 e12 => ?_)
            have e12 : isB z12 (kindZ (σ.1.2.2 t.toNat) (fgZ (σ.1.2.2 t.toNat) k - 1) = 0 ∧ kindZ (σ.1.2.2 t.toNat) (hbZ (σ.1.2.2 t.toNat) (fgZ (σ.1.2.2 t.toNat) k)) = 0) := e12
            refine z_ifb_eq (tgt := 72) hx hb e12 dX4_checkMending_65 (by decide) (fun c_13 => ?_) (fun c_13 => ?_)
            · refine lv_bipush (v := (-4 : Int32)) hx hb dX4_checkMending_72 (by decide) ?_
              exact z_ri (v := (-4 : Int32)) hx hb hr hlocks (show (-4 : Int32).toInt = ckZ σ t k o f from (by unfold ckZ; (repeat' split) <;> first | rfl | omega | contradiction | assumption)) dX4_checkMending_74
            · refine lv_iconst (v := (0 : Int32)) hx hb dX4_checkMending_68 (by decide) ?_
              refine lv_goto (tgt := 74) hx hb dX4_checkMending_69 (by decide) ?_
              exact z_ri (v := (0 : Int32)) hx hb hr hlocks (show (0 : Int32).toInt = ckZ σ t k o f from (by unfold ckZ; (repeat' split) <;> first | rfl | omega | contradiction | assumption)) dX4_checkMending_74
          · refine lv_bipush (v := (-2 : Int32)) hx hb dX4_checkMending_49 (by decide) ?_
            exact z_ri (v := (-2 : Int32)) hx hb hr hlocks (show (-2 : Int32).toInt = ckZ σ t k o f from (by unfold ckZ; (repeat' split) <;> first | rfl | omega | contradiction | assumption)) dX4_checkMending_51
      · refine lv_iconst (v := (-1 : Int32)) hx hb dX4_checkMending_30 (by decide) ?_
        exact z_ri (v := (-1 : Int32)) hx hb hr hlocks (show (-1 : Int32).toInt = ckZ σ t k o f from (by unfold ckZ; (repeat' split) <;> first | rfl | omega | contradiction | assumption)) dX4_checkMending_31

abbrev rmX4_misfit : Room := { frames := 6, cells := 0, slots := 0, locals := 133 }
theorem iwX4_misfit_2 : ∀ w ∈ wsX20, w ∈ wsX4_misfit := fun _ h => List.mem_cons_of_mem _ (List.mem_append_left _ (List.mem_append_right _ h))
theorem iwX4_misfit_4 : ∀ w ∈ wsX40, w ∈ wsX4_misfit := fun _ h => List.mem_cons_of_mem _ (List.mem_append_left _ (List.mem_append_left _ (List.mem_append_right _ h)))
theorem flX4_misfit_10 : Cond.fieldLink RX4 10 "SiltedFloats" "now" "LSiltedFloats$State;" ∈ wsX4_misfit := by decide +kernel
theorem flX4_misfit_66 : Cond.fieldLink RX4 66 "SiltedFloats$State" "gauges" "[LSiltedFloats$Gauge;" ∈ wsX4_misfit := by decide +kernel
theorem hyX4_misfit : yX4_misfit.cls = RX4 ∧ yX4_misfit.cls ≠ "java/lang/invoke/MethodHandle" ∧ yX4_misfit.cls ≠ "java/lang/invoke/VarHandle" ∧ (parseMethodDescriptor yX4_misfit.desc).map (fun d => d.parameters.length) = some 4 := by decide +kernel
set_option maxHeartbeats 4000000 in
set_option maxRecDepth 100000 in
theorem kX4_misfit (l : Launch) (G : xG) (z : Nat) (σ : FD) (xt : Int32) (t : Int) (e_xt : xt.toInt = t) (xk : Int32) (k : Int) (e_xk : xk.toInt = k) (xo : Int32) (o : Int) (e_xo : xo.toInt = o) (xf : Int32) (f : Int) (e_xf : xf.toInt = f) (hok : fdOk σ) : Met l yX4_misfit wsX4_misfit rmX4_misfit (va_Pc [.ref z, .int xt, .int xk, .int xo, .int xf] (zPre G (fun H => SFP G H z σ))) (zS (fun v => v.toInt = a_misfit σ t k o f)) 0 0 zno := by
  refine z_ofW (cc := cX4_misfit) (maxL := 10) (ret := some .int) (by decide +kernel) rfl (Nat.le_of_ble_eq_true rfl) ?_
  intro p e s m below meth c hx hb hml hr hts hown hlocks hK hP ls hl
  have hF := hP
  have hown : s.vm.findClass RX4 = some m.cls := hown
  have hl : lv_has ls 10 [(0, .ref z), (1, .int xt), (2, .int xk), (3, .int xo), (4, .int xf)] := hl
  have hok1 := hok.1
  have hokh := hok1.1
  refine lv_aload_n hx hb dX4_misfit_0 rfl (lv_at hl 0 rfl) ?_
  refine lv_iload_n hx hb dX4_misfit_1 rfl (lv_at hl 1 rfl) ?_
  refine lv_iload_n hx hb dX4_misfit_2 rfl (lv_at hl 2 rfl) ?_
  refine lv_iload_n hx hb dX4_misfit_3 rfl (lv_at hl 3 rfl) ?_
  refine lv_iload hx hb dX4_misfit_4 (lv_at hl 4 rfl) ?_
  refine z_cV (As := [.int xt, .int xk, .int xo, .int xf]) (rest := []) ⟨hx, hb, hml, hown, hts⟩ (kX4_checkMending l G z σ xt t e_xt xk k e_xk xo o e_xo xf f e_xf (by first | assumption | omega)) (cwV 4 hts gX4_misfit_X4_checkMending rfl rfl rfl hyX4_checkMending ⟨Nat.le_of_ble_eq_true rfl, Nat.le_of_ble_eq_true rfl⟩) hK hF hF.1 rfl rfl hl.1 rfl (Nat.le_of_ble_eq_true rfl) dX4_misfit_6 ⟨Nat.zero_le _, Nat.zero_le _⟩ (fun z1 e1 => ?_)
  have e1 : z1.toInt = ckZ σ t k o f := e1
  refine lv_istore hx hb dX4_misfit_9 hl (by decide) rfl (fun ls hl => ?_)
  have hl : lv_has ls 10 [(5, .int z1), (0, .ref z), (1, .int xt), (2, .int xk), (3, .int xo), (4, .int xf)] := hl
  refine lv_iload hx hb dX4_misfit_11 (lv_at hl 0 rfl) ?_
  refine z_if_eq (tgt := 19) hx hb e1 dX4_misfit_13 (by decide) (fun c_2 => ?_) (fun c_2 => ?_)
  · have hck := ckZ_0 c_2
    have hgo := hok1.2.2 t.toNat (by omega)
    have hgo2 := hok1.2.2 o.toNat (by omega)
    have hsm := hgo.small
    have hso := hgo2.small
    have hfb := fgZ_b (σ.1.2.2 t.toNat) k
    have hhb := hbZ_b (σ.1.2.2 t.toNat) (show fgZ (σ.1.2.2 t.toNat) k ≤ 120 by omega)
    refine lv_aload_n hx hb dX4_misfit_19 rfl (lv_at hl 1 rfl) ?_
    have hN3 : ST G s.heap (z + 1) σ.1 := hF.now
    refine z_get hx hb hts iwX4_misfit_4 hown hK hF.1 rfl 0 (by decide) flX4_misfit_10 rfl (v := .ref (z + 1)) rfl dX4_misfit_20 ?_
    refine z_get hx hb hts iwX4_misfit_2 hown hK hN3.1 rfl 2 (by decide) flX4_misfit_66 rfl (v := .ref ((z + 1) + 5)) rfl dX4_misfit_23 ?_
    refine lv_iload_n hx hb dX4_misfit_26 rfl (lv_at hl 2 rfl) ?_
    have hJ4 : GA G s.heap ((z + 1) + 6 + 4 * t.toNat) (σ.1.2.2 t.toNat) := hN3.gauge (i := t.toNat) (by omega)
    refine z_aald (b := (z + 1) + 6 + 4 * t.toNat) hx hb hK 3 hN3.2.2.1 rfl e_xt (by omega) rfl dX4_misfit_27 ?_
    refine lv_astore hx hb dX4_misfit_28 hl (by decide) rfl (fun ls hl => ?_)
    have hl : lv_has ls 10 [(6, .ref ((z + 1) + 6 + 4 * t.toNat)), (5, .int z1), (0, .ref z), (1, .int xt), (2, .int xk), (3, .int xo), (4, .int xf)] := hl
    refine lv_aload_n hx hb dX4_misfit_30 rfl (lv_at hl 2 rfl) ?_
    refine z_get hx hb hts iwX4_misfit_4 hown hK hF.1 rfl 0 (by decide) flX4_misfit_10 rfl (v := .ref (z + 1)) rfl dX4_misfit_31 ?_
    refine z_get hx hb hts iwX4_misfit_2 hown hK hN3.1 rfl 2 (by decide) flX4_misfit_66 rfl (v := .ref ((z + 1) + 5)) rfl dX4_misfit_34 ?_
    refine lv_iload_n hx hb dX4_misfit_37 rfl (lv_at hl 5 rfl) ?_
    have hJ5 : GA G s.heap ((z + 1) + 6 + 4 * o.toNat) (σ.1.2.2 o.toNat) := hN3.gauge (i := o.toNat) (by omega)
    refine z_aald (b := (z + 1) + 6 + 4 * o.toNat) hx hb hK 3 hN3.2.2.1 rfl e_xo (by omega) rfl dX4_misfit_38 ?_
    refine lv_astore hx hb dX4_misfit_39 hl (by decide) rfl (fun ls hl => ?_)
    have hl : lv_has ls 10 [(7, .ref ((z + 1) + 6 + 4 * o.toNat)), (6, .ref ((z + 1) + 6 + 4 * t.toNat)), (5, .int z1), (0, .ref z), (1, .int xt), (2, .int xk), (3, .int xo), (4, .int xf)] := hl
    refine lv_aload hx hb dX4_misfit_41 (lv_at hl 1 rfl) ?_
    refine lv_iload_n hx hb dX4_misfit_43 rfl (lv_at hl 5 rfl) ?_
    refine z_cV (As := [.int xk]) (rest := []) ⟨hx, hb, hml, hown, hts⟩ (kX0_firstHourOfGap l G ((z + 1) + 6 + 4 * t.toNat) (σ.1.2.2 t.toNat) xk k e_xk) (cwV 1 hts gX4_misfit_X0_firstHourOfGap rfl rfl rfl hyX0_firstHourOfGap ⟨Nat.le_of_ble_eq_true rfl, Nat.le_of_ble_eq_true rfl⟩) hK hJ4 hJ4.1 rfl rfl hl.1 rfl (Nat.le_of_ble_eq_true rfl) dX4_misfit_44 ⟨Nat.zero_le _, Nat.zero_le _⟩ (fun z6 e6 => ?_)
    have e6 : z6.toInt = fgZ (σ.1.2.2 t.toNat) k := e6
    refine lv_iconst (v := (1 : Int32)) hx hb dX4_misfit_47 (by decide) ?_
    refine z_isub hx hb e6 kI_1 dX4_misfit_48 (by omega) (fun z7 e7 => ?_)
    refine lv_istore hx hb dX4_misfit_49 hl (by decide) rfl (fun ls hl => ?_)
    have hl : lv_has ls 10 [(8, .int z7), (7, .ref ((z + 1) + 6 + 4 * o.toNat)), (6, .ref ((z + 1) + 6 + 4 * t.toNat)), (5, .int z1), (0, .ref z), (1, .int xt), (2, .int xk), (3, .int xo), (4, .int xf)] := hl
    refine lv_aload hx hb dX4_misfit_51 (lv_at hl 2 rfl) ?_
    refine lv_iload hx hb dX4_misfit_53 (lv_at hl 0 rfl) ?_
    refine lv_iconst (v := (1 : Int32)) hx hb dX4_misfit_55 (by decide) ?_
    refine z_iadd hx hb e7 kI_1 dX4_misfit_56 (by omega) (fun z8 e8 => ?_)
    refine z_cV (As := [.int z8]) (rest := []) ⟨hx, hb, hml, hown, hts⟩ (kX0_hourBehindGapFrom l G ((z + 1) + 6 + 4 * t.toNat) (σ.1.2.2 t.toNat) z8 (((fgZ (σ.1.2.2 t.toNat) k) - (1 : Int)) + (1 : Int)) e8 (by first | assumption | omega)) (cwV 1 hts gX4_misfit_X0_hourBehindGapFrom rfl rfl rfl hyX0_hourBehindGapFrom ⟨Nat.le_of_ble_eq_true rfl, Nat.le_of_ble_eq_true rfl⟩) hK hJ4 hJ4.1 rfl rfl hl.1 rfl (Nat.le_of_ble_eq_true rfl) dX4_misfit_57 ⟨Nat.zero_le _, Nat.zero_le _⟩ (fun z9 e9 => ?_)
    have e9 : z9.toInt = hbZ (σ.1.2.2 t.toNat) (((fgZ (σ.1.2.2 t.toNat) k) - (1 : Int)) + (1 : Int)) := e9
    have e9 : z9.toInt = hbZ (σ.1.2.2 t.toNat) (fgZ (σ.1.2.2 t.toNat) k) := by rw [e9]; congr 1; omega
    refine lv_istore hx hb dX4_misfit_60 hl (by decide) rfl (fun ls hl => ?_)
    have hl : lv_has ls 10 [(9, .int z9), (8, .int z7), (7, .ref ((z + 1) + 6 + 4 * o.toNat)), (6, .ref ((z + 1) + 6 + 4 * t.toNat)), (5, .int z1), (0, .ref z), (1, .int xt), (2, .int xk), (3, .int xo), (4, .int xf)] := hl
    refine lv_aload hx hb dX4_misfit_62 (lv_at hl 2 rfl) ?_
    refine lv_iload hx hb dX4_misfit_64 (lv_at hl 1 rfl) ?_
    refine lv_iload hx hb dX4_misfit_66 (lv_at hl 9 rfl) ?_
    refine z_iadd hx hb e7 e_xf dX4_misfit_68 (by omega) (fun z10 e10 => ?_)
    refine lv_iload hx hb dX4_misfit_69 (lv_at hl 0 rfl) ?_
    refine lv_iload hx hb dX4_misfit_71 (lv_at hl 9 rfl) ?_
    refine z_iadd hx hb e9 e_xf dX4_misfit_73 (by omega) (fun z11 e11 => ?_)
    refine z_cV (As := [.int z10, .int z11]) (rest := []) ⟨hx, hb, hml, hown, hts⟩ (kX0_hasReadings l G ((z + 1) + 6 + 4 * o.toNat) (σ.1.2.2 o.toNat) z10 (((fgZ (σ.1.2.2 t.toNat) k) - (1 : Int)) + f) e10 z11 ((hbZ (σ.1.2.2 t.toNat) (fgZ (σ.1.2.2 t.toNat) k)) + f) e11 (by first | assumption | omega)) (cwV 2 hts gX4_misfit_X0_hasReadings rfl rfl rfl hyX0_hasReadings ⟨Nat.le_of_ble_eq_true rfl, Nat.le_of_ble_eq_true rfl⟩) hK hJ5 hJ5.1 rfl rfl hl.1 rfl (Nat.le_of_ble_eq_true rfl) dX4_misfit_74 ⟨Nat.zero_le _, Nat.zero_le _⟩ (fun z12 e12 => ?_)
    have e12 : isB z12 (∀ j : Int, (((fgZ (σ.1.2.2 t.toNat) k) - (1 : Int)) + f) ≤ j → j ≤ ((hbZ (σ.1.2.2 t.toNat) (fgZ (σ.1.2.2 t.toNat) k)) + f) → kindZ (σ.1.2.2 o.toNat) j = 0) := e12
    refine z_ifb_ne (tgt := 83) hx hb e12 dX4_misfit_77 (by decide) (fun c_13 => ?_) (fun c_13 => ?_)
    · refine lv_aload hx hb dX4_misfit_83 (lv_at hl 3 rfl) ?_
      refine lv_iload hx hb dX4_misfit_85 (lv_at hl 1 rfl) ?_
      refine lv_iload hx hb dX4_misfit_87 (lv_at hl 0 rfl) ?_
      refine lv_aload hx hb dX4_misfit_89 (lv_at hl 2 rfl) ?_
      refine lv_iload hx hb dX4_misfit_91 (lv_at hl 9 rfl) ?_
      refine z_cV (As := [.int z7, .int z9, .ref ((z + 1) + 6 + 4 * o.toNat), .int xf]) (rest := []) ⟨hx, hb, hml, hown, hts⟩ (kX0_misfitAround l G ((z + 1) + 6 + 4 * t.toNat) (σ.1.2.2 t.toNat) ((z + 1) + 6 + 4 * o.toNat) (σ.1.2.2 o.toNat) z7 ((fgZ (σ.1.2.2 t.toNat) k) - (1 : Int)) e7 z9 (hbZ (σ.1.2.2 t.toNat) (fgZ (σ.1.2.2 t.toNat) k)) e9 xf f e_xf hsm hso (by first | assumption | omega)) (cwV 4 hts gX4_misfit_X0_misfitAround rfl rfl rfl hyX0_misfitAround ⟨Nat.le_of_ble_eq_true rfl, Nat.le_of_ble_eq_true rfl⟩) hK ⟨hJ4, hJ5⟩ hJ4.1 rfl rfl hl.1 rfl (Nat.le_of_ble_eq_true rfl) dX4_misfit_93 ⟨Nat.zero_le _, Nat.zero_le _⟩ (fun z14 e14 => ?_)
      have e14 : z14.toInt = sumZ (mfT (σ.1.2.2 t.toNat) (σ.1.2.2 o.toNat) f) (((fgZ (σ.1.2.2 t.toNat) k) - (1 : Int)) - 11) 12 + sumZ (mfT (σ.1.2.2 t.toNat) (σ.1.2.2 o.toNat) f) ((hbZ (σ.1.2.2 t.toNat) (fgZ (σ.1.2.2 t.toNat) k)) + 1) 12 := e14
      exact z_ri (v := z14) hx hb hr hlocks (show z14.toInt = a_misfit σ t k o f from (by unfold a_misfit itC ahZ bhZ mfZ; (repeat' split) <;> first | rfl | omega | contradiction | assumption)) dX4_misfit_96
    · refine lv_bipush (v := (-5 : Int32)) hx hb dX4_misfit_80 (by decide) ?_
      exact z_ri (v := (-5 : Int32)) hx hb hr hlocks (show (-5 : Int32).toInt = a_misfit σ t k o f from (by unfold a_misfit itC ahZ bhZ mfZ; (repeat' split) <;> first | rfl | omega | contradiction | assumption)) dX4_misfit_82
  · refine lv_iload hx hb dX4_misfit_16 (lv_at hl 0 rfl) ?_
    exact z_ri (v := z1) hx hb hr hlocks (show z1.toInt = a_misfit σ t k o f from (by unfold a_misfit itC ahZ bhZ mfZ; (repeat' split) <;> first | rfl | omega | contradiction | assumption)) dX4_misfit_18

abbrev rmX4_mend : Room := { frames := 6, cells := 0, slots := 0, locals := 133 }
theorem iwX4_mend_2 : ∀ w ∈ wsX20, w ∈ wsX4_mend := fun _ h => List.mem_cons_of_mem _ (List.mem_append_left _ (List.mem_append_left _ (List.mem_append_right _ h)))
theorem iwX4_mend_4 : ∀ w ∈ wsX40, w ∈ wsX4_mend := fun _ h => List.mem_cons_of_mem _ (List.mem_append_left _ (List.mem_append_left _ (List.mem_append_left _ (List.mem_append_right _ h))))
theorem flX4_mend_10 : Cond.fieldLink RX4 10 "SiltedFloats" "now" "LSiltedFloats$State;" ∈ wsX4_mend := by decide +kernel
theorem flX4_mend_66 : Cond.fieldLink RX4 66 "SiltedFloats$State" "gauges" "[LSiltedFloats$Gauge;" ∈ wsX4_mend := by decide +kernel
theorem hyX4_mend : yX4_mend.cls = RX4 ∧ yX4_mend.cls ≠ "java/lang/invoke/MethodHandle" ∧ yX4_mend.cls ≠ "java/lang/invoke/VarHandle" ∧ (parseMethodDescriptor yX4_mend.desc).map (fun d => d.parameters.length) = some 4 := by decide +kernel
set_option maxHeartbeats 4000000 in
set_option maxRecDepth 100000 in
theorem kX4_mend (l : Launch) (G : xG) (z : Nat) (σ : FD) (xt : Int32) (t : Int) (e_xt : xt.toInt = t) (xk : Int32) (k : Int) (e_xk : xk.toInt = k) (xo : Int32) (o : Int) (e_xo : xo.toInt = o) (xf : Int32) (f : Int) (e_xf : xf.toInt = f) (hok : fdOk σ) : Met l yX4_mend wsX4_mend rmX4_mend (va_Pc [.ref z, .int xt, .int xk, .int xo, .int xf] (zPre G (fun H => SFP G H z σ))) (zW (fun v => v.toInt = a_mend σ t k o f) (fun H => SFP G H z (s_mend σ t k o f)) (iv z 112)) 0 0 (iv z 112) := by
  refine z_ofW (cc := cX4_mend) (maxL := 10) (ret := some .int) (by decide +kernel) rfl (Nat.le_of_ble_eq_true rfl) ?_
  intro p e s m below meth c hx hb hml hr hts hown hlocks hK hP ls hl
  have hF := hP
  have hown : s.vm.findClass RX4 = some m.cls := hown
  have hl : lv_has ls 10 [(0, .ref z), (1, .int xt), (2, .int xk), (3, .int xo), (4, .int xf)] := hl
  have hS : va_S (iv z 112) s.heap s.heap [] := va_S.rf
  have hok1 := hok.1
  have hokh := hok1.1
  refine lv_aload_n hx hb dX4_mend_0 rfl (lv_at hl 0 rfl) ?_
  refine lv_iload_n hx hb dX4_mend_1 rfl (lv_at hl 1 rfl) ?_
  refine lv_iload_n hx hb dX4_mend_2 rfl (lv_at hl 2 rfl) ?_
  refine lv_iload_n hx hb dX4_mend_3 rfl (lv_at hl 3 rfl) ?_
  refine lv_iload hx hb dX4_mend_4 (lv_at hl 4 rfl) ?_
  refine z_cV (As := [.int xt, .int xk, .int xo, .int xf]) (rest := []) ⟨hx, hb, hml, hown, hts⟩ (kX4_checkMending l G z σ xt t e_xt xk k e_xk xo o e_xo xf f e_xf (by first | assumption | omega)) (cwV 4 hts gX4_mend_X4_checkMending rfl rfl rfl hyX4_checkMending ⟨Nat.le_of_ble_eq_true rfl, Nat.le_of_ble_eq_true rfl⟩) hK hF hF.1 rfl rfl hl.1 rfl (Nat.le_of_ble_eq_true rfl) dX4_mend_6 ⟨Nat.zero_le _, Nat.zero_le _⟩ (fun z1 e1 => ?_)
  have e1 : z1.toInt = ckZ σ t k o f := e1
  refine lv_istore hx hb dX4_mend_9 hl (by decide) rfl (fun ls hl => ?_)
  have hl : lv_has ls 10 [(5, .int z1), (0, .ref z), (1, .int xt), (2, .int xk), (3, .int xo), (4, .int xf)] := hl
  refine lv_iload hx hb dX4_mend_11 (lv_at hl 0 rfl) ?_
  refine z_if_eq (tgt := 19) hx hb e1 dX4_mend_13 (by decide) (fun c_2 => ?_) (fun c_2 => ?_)
  · have hck := ckZ_0 c_2
    have hgo := hok1.2.2 t.toNat (by omega)
    have hgo2 := hok1.2.2 o.toNat (by omega)
    have hsm := hgo.small
    have hso := hgo2.small
    have hfb := fgZ_b (σ.1.2.2 t.toNat) k
    have hhb := hbZ_b (σ.1.2.2 t.toNat) (show fgZ (σ.1.2.2 t.toNat) k ≤ 120 by omega)
    refine lv_aload_n hx hb dX4_mend_19 rfl (lv_at hl 1 rfl) ?_
    have hN3 : ST G s.heap (z + 1) σ.1 := hF.now
    refine z_get hx hb hts iwX4_mend_4 hown hK hF.1 rfl 0 (by decide) flX4_mend_10 rfl (v := .ref (z + 1)) rfl dX4_mend_20 ?_
    refine z_get hx hb hts iwX4_mend_2 hown hK hN3.1 rfl 2 (by decide) flX4_mend_66 rfl (v := .ref ((z + 1) + 5)) rfl dX4_mend_23 ?_
    refine lv_iload_n hx hb dX4_mend_26 rfl (lv_at hl 2 rfl) ?_
    have hJ4 : GA G s.heap ((z + 1) + 6 + 4 * t.toNat) (σ.1.2.2 t.toNat) := hN3.gauge (i := t.toNat) (by omega)
    refine z_aald (b := (z + 1) + 6 + 4 * t.toNat) hx hb hK 3 hN3.2.2.1 rfl e_xt (by omega) rfl dX4_mend_27 ?_
    refine lv_astore hx hb dX4_mend_28 hl (by decide) rfl (fun ls hl => ?_)
    have hl : lv_has ls 10 [(6, .ref ((z + 1) + 6 + 4 * t.toNat)), (5, .int z1), (0, .ref z), (1, .int xt), (2, .int xk), (3, .int xo), (4, .int xf)] := hl
    refine lv_aload_n hx hb dX4_mend_30 rfl (lv_at hl 2 rfl) ?_
    refine z_get hx hb hts iwX4_mend_4 hown hK hF.1 rfl 0 (by decide) flX4_mend_10 rfl (v := .ref (z + 1)) rfl dX4_mend_31 ?_
    refine z_get hx hb hts iwX4_mend_2 hown hK hN3.1 rfl 2 (by decide) flX4_mend_66 rfl (v := .ref ((z + 1) + 5)) rfl dX4_mend_34 ?_
    refine lv_iload_n hx hb dX4_mend_37 rfl (lv_at hl 5 rfl) ?_
    have hJ5 : GA G s.heap ((z + 1) + 6 + 4 * o.toNat) (σ.1.2.2 o.toNat) := hN3.gauge (i := o.toNat) (by omega)
    refine z_aald (b := (z + 1) + 6 + 4 * o.toNat) hx hb hK 3 hN3.2.2.1 rfl e_xo (by omega) rfl dX4_mend_38 ?_
    refine lv_astore hx hb dX4_mend_39 hl (by decide) rfl (fun ls hl => ?_)
    have hl : lv_has ls 10 [(7, .ref ((z + 1) + 6 + 4 * o.toNat)), (6, .ref ((z + 1) + 6 + 4 * t.toNat)), (5, .int z1), (0, .ref z), (1, .int xt), (2, .int xk), (3, .int xo), (4, .int xf)] := hl
    refine lv_aload hx hb dX4_mend_41 (lv_at hl 1 rfl) ?_
    refine lv_iload_n hx hb dX4_mend_43 rfl (lv_at hl 5 rfl) ?_
    refine z_cV (As := [.int xk]) (rest := []) ⟨hx, hb, hml, hown, hts⟩ (kX0_firstHourOfGap l G ((z + 1) + 6 + 4 * t.toNat) (σ.1.2.2 t.toNat) xk k e_xk) (cwV 1 hts gX4_mend_X0_firstHourOfGap rfl rfl rfl hyX0_firstHourOfGap ⟨Nat.le_of_ble_eq_true rfl, Nat.le_of_ble_eq_true rfl⟩) hK hJ4 hJ4.1 rfl rfl hl.1 rfl (Nat.le_of_ble_eq_true rfl) dX4_mend_44 ⟨Nat.zero_le _, Nat.zero_le _⟩ (fun z6 e6 => ?_)
    have e6 : z6.toInt = fgZ (σ.1.2.2 t.toNat) k := e6
    refine lv_iconst (v := (1 : Int32)) hx hb dX4_mend_47 (by decide) ?_
    refine z_isub hx hb e6 kI_1 dX4_mend_48 (by omega) (fun z7 e7 => ?_)
    refine lv_istore hx hb dX4_mend_49 hl (by decide) rfl (fun ls hl => ?_)
    have hl : lv_has ls 10 [(8, .int z7), (7, .ref ((z + 1) + 6 + 4 * o.toNat)), (6, .ref ((z + 1) + 6 + 4 * t.toNat)), (5, .int z1), (0, .ref z), (1, .int xt), (2, .int xk), (3, .int xo), (4, .int xf)] := hl
    refine lv_aload hx hb dX4_mend_51 (lv_at hl 2 rfl) ?_
    refine lv_iload hx hb dX4_mend_53 (lv_at hl 0 rfl) ?_
    refine lv_iconst (v := (1 : Int32)) hx hb dX4_mend_55 (by decide) ?_
    refine z_iadd hx hb e7 kI_1 dX4_mend_56 (by omega) (fun z8 e8 => ?_)
    refine z_cV (As := [.int z8]) (rest := []) ⟨hx, hb, hml, hown, hts⟩ (kX0_hourBehindGapFrom l G ((z + 1) + 6 + 4 * t.toNat) (σ.1.2.2 t.toNat) z8 (((fgZ (σ.1.2.2 t.toNat) k) - (1 : Int)) + (1 : Int)) e8 (by first | assumption | omega)) (cwV 1 hts gX4_mend_X0_hourBehindGapFrom rfl rfl rfl hyX0_hourBehindGapFrom ⟨Nat.le_of_ble_eq_true rfl, Nat.le_of_ble_eq_true rfl⟩) hK hJ4 hJ4.1 rfl rfl hl.1 rfl (Nat.le_of_ble_eq_true rfl) dX4_mend_57 ⟨Nat.zero_le _, Nat.zero_le _⟩ (fun z9 e9 => ?_)
    have e9 : z9.toInt = hbZ (σ.1.2.2 t.toNat) (((fgZ (σ.1.2.2 t.toNat) k) - (1 : Int)) + (1 : Int)) := e9
    have e9 : z9.toInt = hbZ (σ.1.2.2 t.toNat) (fgZ (σ.1.2.2 t.toNat) k) := by rw [e9]; congr 1; omega
    refine lv_istore hx hb dX4_mend_60 hl (by decide) rfl (fun ls hl => ?_)
    have hl : lv_has ls 10 [(9, .int z9), (8, .int z7), (7, .ref ((z + 1) + 6 + 4 * o.toNat)), (6, .ref ((z + 1) + 6 + 4 * t.toNat)), (5, .int z1), (0, .ref z), (1, .int xt), (2, .int xk), (3, .int xo), (4, .int xf)] := hl
    refine lv_aload hx hb dX4_mend_62 (lv_at hl 2 rfl) ?_
    refine lv_iload hx hb dX4_mend_64 (lv_at hl 1 rfl) ?_
    refine lv_iload hx hb dX4_mend_66 (lv_at hl 9 rfl) ?_
    refine z_iadd hx hb e7 e_xf dX4_mend_68 (by omega) (fun z10 e10 => ?_)
    refine lv_iload hx hb dX4_mend_69 (lv_at hl 0 rfl) ?_
    refine lv_iload hx hb dX4_mend_71 (lv_at hl 9 rfl) ?_
    refine z_iadd hx hb e9 e_xf dX4_mend_73 (by omega) (fun z11 e11 => ?_)
    refine z_cV (As := [.int z10, .int z11]) (rest := []) ⟨hx, hb, hml, hown, hts⟩ (kX0_hasReadings l G ((z + 1) + 6 + 4 * o.toNat) (σ.1.2.2 o.toNat) z10 (((fgZ (σ.1.2.2 t.toNat) k) - (1 : Int)) + f) e10 z11 ((hbZ (σ.1.2.2 t.toNat) (fgZ (σ.1.2.2 t.toNat) k)) + f) e11 (by first | assumption | omega)) (cwV 2 hts gX4_mend_X0_hasReadings rfl rfl rfl hyX0_hasReadings ⟨Nat.le_of_ble_eq_true rfl, Nat.le_of_ble_eq_true rfl⟩) hK hJ5 hJ5.1 rfl rfl hl.1 rfl (Nat.le_of_ble_eq_true rfl) dX4_mend_74 ⟨Nat.zero_le _, Nat.zero_le _⟩ (fun z12 e12 => ?_)
    have e12 : isB z12 (∀ j : Int, (((fgZ (σ.1.2.2 t.toNat) k) - (1 : Int)) + f) ≤ j → j ≤ ((hbZ (σ.1.2.2 t.toNat) (fgZ (σ.1.2.2 t.toNat) k)) + f) → kindZ (σ.1.2.2 o.toNat) j = 0) := e12
    refine z_ifb_ne (tgt := 83) hx hb e12 dX4_mend_77 (by decide) (fun c_13 => ?_) (fun c_13 => ?_)
    · refine lv_aload_n hx hb dX4_mend_83 rfl (lv_at hl 5 rfl) ?_
      refine z_cVv (As := []) (rest := []) ⟨hx, hb, hml, hown, hts⟩ (kX4_remember l G z σ (by first | assumption | omega)) (cwV 0 hts gX4_mend_X4_remember rfl rfl rfl hyX4_remember ⟨Nat.le_of_ble_eq_true rfl, Nat.le_of_ble_eq_true rfl⟩) hK hF hF.1 rfl rfl hl.1 rfl (Nat.le_of_ble_eq_true rfl) dX4_mend_84 ⟨Nat.zero_le _, Nat.zero_le _⟩ hS (fun q h => by simp only [iv] at h ⊢; omega) (fun H locs hB hsz hq hS => ?_)
      have hF := hB
      have hF : SFP G H z (σ.1, σ.2.1, σ.2.2.1, (rmF σ).2.2.2.1, (rmF σ).2.2.2.2.1, (rmF σ).2.2.2.2.2.1, σ.2.2.2.2.2.2) := hF
      have hN3 : ST G H (z + 1) σ.1 := hF.now
      have hJ4 : GA G H ((z + 1) + 6 + 4 * t.toNat) (σ.1.2.2 t.toNat) := hN3.gauge (i := t.toNat) (by omega)
      have hJ5 : GA G H ((z + 1) + 6 + 4 * o.toNat) (σ.1.2.2 o.toNat) := hN3.gauge (i := o.toNat) (by omega)
      refine lv_aload hx hb dX4_mend_87 (lv_at hl 3 rfl) ?_
      refine lv_iload hx hb dX4_mend_89 (lv_at hl 1 rfl) ?_
      refine lv_iload hx hb dX4_mend_91 (lv_at hl 0 rfl) ?_
      refine lv_aload hx hb dX4_mend_93 (lv_at hl 2 rfl) ?_
      refine lv_iload hx hb dX4_mend_95 (lv_at hl 9 rfl) ?_
      refine z_cVv (As := [.int z7, .int z9, .ref ((z + 1) + 6 + 4 * o.toNat), .int xf]) (rest := []) ⟨hx, hb, hml, hown, hts⟩ (kX0_mendBetween l G ((z + 1) + 6 + 4 * t.toNat) (σ.1.2.2 t.toNat) ((z + 1) + 6 + 4 * o.toNat) (σ.1.2.2 o.toNat) z7 ((fgZ (σ.1.2.2 t.toNat) k) - (1 : Int)) e7 z9 (hbZ (σ.1.2.2 t.toNat) (fgZ (σ.1.2.2 t.toNat) k)) e9 xf f e_xf (by first | assumption | omega) hsm hso (by first | assumption | omega)) (cwV 4 hts gX4_mend_X0_mendBetween rfl rfl rfl hyX0_mendBetween ⟨Nat.le_of_ble_eq_true rfl, Nat.le_of_ble_eq_true rfl⟩) hK ⟨hJ4, hJ5⟩ hJ4.1 rfl rfl hl.1 rfl (Nat.le_of_ble_eq_true rfl) dX4_mend_97 ⟨Nat.zero_le _, Nat.zero_le _⟩ hS (fun q h => by simp only [iv] at h ⊢; omega) (fun H locs hB hsz hq hS => ?_)
      obtain ⟨hJ4, hJ5⟩ := hB
      have hJ4 : GA G H ((z + 1) + 6 + 4 * t.toNat) (mdG (σ.1.2.2 t.toNat) (σ.1.2.2 o.toNat) ((fgZ (σ.1.2.2 t.toNat) k) - (1 : Int)) (hbZ (σ.1.2.2 t.toNat) (fgZ (σ.1.2.2 t.toNat) k)) f) := hJ4
      have hN3 : ST G H (z + 1) (σ.1.1, σ.1.2.1, va_up σ.1.2.2 t.toNat (mdG (σ.1.2.2 t.toNat) (σ.1.2.2 o.toNat) ((fgZ (σ.1.2.2 t.toNat) k) - (1 : Int)) (hbZ (σ.1.2.2 t.toNat) (fgZ (σ.1.2.2 t.toNat) k)) f)) := hN3.setG (i := t.toNat) (by omega) hJ4 (fun q h1 h => hq q h1 (by simp only [iv]; omega))
      have hF : SFP G H z ((σ.1.1, σ.1.2.1, va_up σ.1.2.2 t.toNat (mdG (σ.1.2.2 t.toNat) (σ.1.2.2 o.toNat) ((fgZ (σ.1.2.2 t.toNat) k) - (1 : Int)) (hbZ (σ.1.2.2 t.toNat) (fgZ (σ.1.2.2 t.toNat) k)) f)), σ.2.1, σ.2.2.1, ((rmF σ).2.2.2.1), ((rmF σ).2.2.2.2.1), ((rmF σ).2.2.2.2.2.1), σ.2.2.2.2.2.2) := hF.setNow hN3 (fun q h1 h => hq q h1 (by simp only [iv]; omega))
      refine lv_iload hx hb dX4_mend_100 (lv_at hl 0 rfl) ?_
      refine lv_iload hx hb dX4_mend_102 (lv_at hl 1 rfl) ?_
      refine z_isub hx hb e9 e7 dX4_mend_104 (by omega) (fun z16 e16 => ?_)
      refine lv_iconst (v := (1 : Int32)) hx hb dX4_mend_105 (by decide) ?_
      refine z_isub hx hb e16 kI_1 dX4_mend_106 (by omega) (fun z17 e17 => ?_)
      exact z_riw (v := z17) hx hb hr hlocks (show z17.toInt = a_mend σ t k o f from (by unfold a_mend itC ahZ bhZ; (repeat' split) <;> first | rfl | omega | contradiction | assumption)) (hF.to (by unfold s_mend ahZ bhZ; first | exact (itC_t (And.intro (by assumption) (by assumption))).symm | exact (itC_f (fun q => absurd q.1 (by assumption))).symm | exact (itC_f (fun q => absurd q.2 (by assumption))).symm)) hS dX4_mend_107
    · refine lv_bipush (v := (-4 : Int32)) hx hb dX4_mend_80 (by decide) ?_
      exact z_riw (v := (-4 : Int32)) hx hb hr hlocks (show (-4 : Int32).toInt = a_mend σ t k o f from (by unfold a_mend itC ahZ bhZ; (repeat' split) <;> first | rfl | omega | contradiction | assumption)) (hF.to (by unfold s_mend ahZ bhZ; first | exact (itC_t (And.intro (by assumption) (by assumption))).symm | exact (itC_f (fun q => absurd q.1 (by assumption))).symm | exact (itC_f (fun q => absurd q.2 (by assumption))).symm)) hS dX4_mend_82
  · refine lv_iload hx hb dX4_mend_16 (lv_at hl 0 rfl) ?_
    exact z_riw (v := z1) hx hb hr hlocks (show z1.toInt = a_mend σ t k o f from (by unfold a_mend itC ahZ bhZ; (repeat' split) <;> first | rfl | omega | contradiction | assumption)) (hF.to (by unfold s_mend ahZ bhZ; first | exact (itC_t (And.intro (by assumption) (by assumption))).symm | exact (itC_f (fun q => absurd q.1 (by assumption))).symm | exact (itC_f (fun q => absurd q.2 (by assumption))).symm)) hS dX4_mend_18

abbrev rmX4_bestPhase : Room := { frames := 6, cells := 0, slots := 0, locals := 133 }
theorem iwX4_bestPhase_2 : ∀ w ∈ wsX20, w ∈ wsX4_bestPhase := fun _ h => List.mem_cons_of_mem _ (List.mem_append_left _ (List.mem_append_right _ h))
theorem iwX4_bestPhase_4 : ∀ w ∈ wsX40, w ∈ wsX4_bestPhase := fun _ h => List.mem_cons_of_mem _ (List.mem_append_left _ (List.mem_append_left _ (List.mem_append_right _ h)))
theorem flX4_bestPhase_10 : Cond.fieldLink RX4 10 "SiltedFloats" "now" "LSiltedFloats$State;" ∈ wsX4_bestPhase := by decide +kernel
theorem flX4_bestPhase_66 : Cond.fieldLink RX4 66 "SiltedFloats$State" "gauges" "[LSiltedFloats$Gauge;" ∈ wsX4_bestPhase := by decide +kernel
theorem hyX4_bestPhase : yX4_bestPhase.cls = RX4 ∧ yX4_bestPhase.cls ≠ "java/lang/invoke/MethodHandle" ∧ yX4_bestPhase.cls ≠ "java/lang/invoke/VarHandle" ∧ (parseMethodDescriptor yX4_bestPhase.desc).map (fun d => d.parameters.length) = some 3 := by decide +kernel
set_option maxHeartbeats 4000000 in
set_option maxRecDepth 100000 in
theorem kX4_bestPhase (l : Launch) (G : xG) (z : Nat) (σ : FD) (xt : Int32) (t : Int) (e_xt : xt.toInt = t) (xk : Int32) (k : Int) (e_xk : xk.toInt = k) (xo : Int32) (o : Int) (e_xo : xo.toInt = o) (hok : fdOk σ) : Met l yX4_bestPhase wsX4_bestPhase rmX4_bestPhase (va_Pc [.ref z, .int xt, .int xk, .int xo] (zPre G (fun H => SFP G H z σ))) (zS (fun v => v.toInt = a_bestPhase σ t k o)) 0 0 zno := by
  refine z_ofW (cc := cX4_bestPhase) (maxL := 14) (ret := some .int) (by decide +kernel) rfl (Nat.le_of_ble_eq_true rfl) ?_
  intro p e s m below meth c hx hb hml hr hts hown hlocks hK hP ls hl
  have hF := hP
  have hown : s.vm.findClass RX4 = some m.cls := hown
  have hl : lv_has ls 14 [(0, .ref z), (1, .int xt), (2, .int xk), (3, .int xo)] := hl
  have hok1 := hok.1
  have hokh := hok1.1
  refine lv_aload_n hx hb dX4_bestPhase_0 rfl (lv_at hl 0 rfl) ?_
  refine lv_iload_n hx hb dX4_bestPhase_1 rfl (lv_at hl 1 rfl) ?_
  refine lv_iload_n hx hb dX4_bestPhase_2 rfl (lv_at hl 2 rfl) ?_
  refine lv_iload_n hx hb dX4_bestPhase_3 rfl (lv_at hl 3 rfl) ?_
  refine lv_iconst (v := (0 : Int32)) hx hb dX4_bestPhase_4 (by decide) ?_
  refine z_cV (As := [.int xt, .int xk, .int xo, .int (0 : Int32)]) (rest := []) ⟨hx, hb, hml, hown, hts⟩ (kX4_checkMending l G z σ xt t e_xt xk k e_xk xo o e_xo (0 : Int32) (0 : Int) kI_0 (by first | assumption | omega)) (cwV 4 hts gX4_bestPhase_X4_checkMending rfl rfl rfl hyX4_checkMending ⟨Nat.le_of_ble_eq_true rfl, Nat.le_of_ble_eq_true rfl⟩) hK hF hF.1 rfl rfl hl.1 rfl (Nat.le_of_ble_eq_true rfl) dX4_bestPhase_5 ⟨Nat.zero_le _, Nat.zero_le _⟩ (fun z1 e1 => ?_)
  have e1 : z1.toInt = ckZ σ t k o (0 : Int) := e1
  refine lv_istore hx hb dX4_bestPhase_8 hl (by decide) rfl (fun ls hl => ?_)
  have hl : lv_has ls 14 [(4, .int z1), (0, .ref z), (1, .int xt), (2, .int xk), (3, .int xo)] := hl
  refine lv_iload hx hb dX4_bestPhase_10 (lv_at hl 0 rfl) ?_
  refine z_if_eq (tgt := 18) hx hb e1 dX4_bestPhase_12 (by decide) (fun c_2 => ?_) (fun c_2 => ?_)
  · have hck := ckZ_0 c_2
    have hgo := hok1.2.2 t.toNat (by omega)
    have hgo2 := hok1.2.2 o.toNat (by omega)
    have hsm := hgo.small
    have hso := hgo2.small
    have hfb := fgZ_b (σ.1.2.2 t.toNat) k
    have hhb := hbZ_b (σ.1.2.2 t.toNat) (show fgZ (σ.1.2.2 t.toNat) k ≤ 120 by omega)
    refine lv_aload_n hx hb dX4_bestPhase_18 rfl (lv_at hl 1 rfl) ?_
    have hN3 : ST G s.heap (z + 1) σ.1 := hF.now
    refine z_get hx hb hts iwX4_bestPhase_4 hown hK hF.1 rfl 0 (by decide) flX4_bestPhase_10 rfl (v := .ref (z + 1)) rfl dX4_bestPhase_19 ?_
    refine z_get hx hb hts iwX4_bestPhase_2 hown hK hN3.1 rfl 2 (by decide) flX4_bestPhase_66 rfl (v := .ref ((z + 1) + 5)) rfl dX4_bestPhase_22 ?_
    refine lv_iload_n hx hb dX4_bestPhase_25 rfl (lv_at hl 2 rfl) ?_
    have hJ4 : GA G s.heap ((z + 1) + 6 + 4 * t.toNat) (σ.1.2.2 t.toNat) := hN3.gauge (i := t.toNat) (by omega)
    refine z_aald (b := (z + 1) + 6 + 4 * t.toNat) hx hb hK 3 hN3.2.2.1 rfl e_xt (by omega) rfl dX4_bestPhase_26 ?_
    refine lv_astore hx hb dX4_bestPhase_27 hl (by decide) rfl (fun ls hl => ?_)
    have hl : lv_has ls 14 [(5, .ref ((z + 1) + 6 + 4 * t.toNat)), (4, .int z1), (0, .ref z), (1, .int xt), (2, .int xk), (3, .int xo)] := hl
    refine lv_aload_n hx hb dX4_bestPhase_29 rfl (lv_at hl 2 rfl) ?_
    refine z_get hx hb hts iwX4_bestPhase_4 hown hK hF.1 rfl 0 (by decide) flX4_bestPhase_10 rfl (v := .ref (z + 1)) rfl dX4_bestPhase_30 ?_
    refine z_get hx hb hts iwX4_bestPhase_2 hown hK hN3.1 rfl 2 (by decide) flX4_bestPhase_66 rfl (v := .ref ((z + 1) + 5)) rfl dX4_bestPhase_33 ?_
    refine lv_iload_n hx hb dX4_bestPhase_36 rfl (lv_at hl 5 rfl) ?_
    have hJ5 : GA G s.heap ((z + 1) + 6 + 4 * o.toNat) (σ.1.2.2 o.toNat) := hN3.gauge (i := o.toNat) (by omega)
    refine z_aald (b := (z + 1) + 6 + 4 * o.toNat) hx hb hK 3 hN3.2.2.1 rfl e_xo (by omega) rfl dX4_bestPhase_37 ?_
    refine lv_astore hx hb dX4_bestPhase_38 hl (by decide) rfl (fun ls hl => ?_)
    have hl : lv_has ls 14 [(6, .ref ((z + 1) + 6 + 4 * o.toNat)), (5, .ref ((z + 1) + 6 + 4 * t.toNat)), (4, .int z1), (0, .ref z), (1, .int xt), (2, .int xk), (3, .int xo)] := hl
    refine lv_aload hx hb dX4_bestPhase_40 (lv_at hl 1 rfl) ?_
    refine lv_iload_n hx hb dX4_bestPhase_42 rfl (lv_at hl 5 rfl) ?_
    refine z_cV (As := [.int xk]) (rest := []) ⟨hx, hb, hml, hown, hts⟩ (kX0_firstHourOfGap l G ((z + 1) + 6 + 4 * t.toNat) (σ.1.2.2 t.toNat) xk k e_xk) (cwV 1 hts gX4_bestPhase_X0_firstHourOfGap rfl rfl rfl hyX0_firstHourOfGap ⟨Nat.le_of_ble_eq_true rfl, Nat.le_of_ble_eq_true rfl⟩) hK hJ4 hJ4.1 rfl rfl hl.1 rfl (Nat.le_of_ble_eq_true rfl) dX4_bestPhase_43 ⟨Nat.zero_le _, Nat.zero_le _⟩ (fun z6 e6 => ?_)
    have e6 : z6.toInt = fgZ (σ.1.2.2 t.toNat) k := e6
    refine lv_iconst (v := (1 : Int32)) hx hb dX4_bestPhase_46 (by decide) ?_
    refine z_isub hx hb e6 kI_1 dX4_bestPhase_47 (by omega) (fun z7 e7 => ?_)
    refine lv_istore hx hb dX4_bestPhase_48 hl (by decide) rfl (fun ls hl => ?_)
    have hl : lv_has ls 14 [(7, .int z7), (6, .ref ((z + 1) + 6 + 4 * o.toNat)), (5, .ref ((z + 1) + 6 + 4 * t.toNat)), (4, .int z1), (0, .ref z), (1, .int xt), (2, .int xk), (3, .int xo)] := hl
    refine lv_aload hx hb dX4_bestPhase_50 (lv_at hl 2 rfl) ?_
    refine lv_iload hx hb dX4_bestPhase_52 (lv_at hl 0 rfl) ?_
    refine lv_iconst (v := (1 : Int32)) hx hb dX4_bestPhase_54 (by decide) ?_
    refine z_iadd hx hb e7 kI_1 dX4_bestPhase_55 (by omega) (fun z8 e8 => ?_)
    refine z_cV (As := [.int z8]) (rest := []) ⟨hx, hb, hml, hown, hts⟩ (kX0_hourBehindGapFrom l G ((z + 1) + 6 + 4 * t.toNat) (σ.1.2.2 t.toNat) z8 (((fgZ (σ.1.2.2 t.toNat) k) - (1 : Int)) + (1 : Int)) e8 (by first | assumption | omega)) (cwV 1 hts gX4_bestPhase_X0_hourBehindGapFrom rfl rfl rfl hyX0_hourBehindGapFrom ⟨Nat.le_of_ble_eq_true rfl, Nat.le_of_ble_eq_true rfl⟩) hK hJ4 hJ4.1 rfl rfl hl.1 rfl (Nat.le_of_ble_eq_true rfl) dX4_bestPhase_56 ⟨Nat.zero_le _, Nat.zero_le _⟩ (fun z9 e9 => ?_)
    have e9 : z9.toInt = hbZ (σ.1.2.2 t.toNat) (((fgZ (σ.1.2.2 t.toNat) k) - (1 : Int)) + (1 : Int)) := e9
    have e9 : z9.toInt = hbZ (σ.1.2.2 t.toNat) (fgZ (σ.1.2.2 t.toNat) k) := by rw [e9]; congr 1; omega
    refine lv_istore hx hb dX4_bestPhase_59 hl (by decide) rfl (fun ls hl => ?_)
    have hl : lv_has ls 14 [(8, .int z9), (7, .int z7), (6, .ref ((z + 1) + 6 + 4 * o.toNat)), (5, .ref ((z + 1) + 6 + 4 * t.toNat)), (4, .int z1), (0, .ref z), (1, .int xt), (2, .int xk), (3, .int xo)] := hl
    refine lv_bipush (v := (-5 : Int32)) hx hb dX4_bestPhase_61 (by decide) ?_
    refine lv_istore hx hb dX4_bestPhase_63 hl (by decide) rfl (fun ls hl => ?_)
    have hl : lv_has ls 14 [(9, .int (-5 : Int32)), (8, .int z9), (7, .int z7), (6, .ref ((z + 1) + 6 + 4 * o.toNat)), (5, .ref ((z + 1) + 6 + 4 * t.toNat)), (4, .int z1), (0, .ref z), (1, .int xt), (2, .int xk), (3, .int xo)] := hl
    refine lv_iconst (v := (0 : Int32)) hx hb dX4_bestPhase_65 (by decide) ?_
    refine lv_istore hx hb dX4_bestPhase_66 hl (by decide) rfl (fun ls hl => ?_)
    have hl : lv_has ls 14 [(10, .int (0 : Int32)), (9, .int (-5 : Int32)), (8, .int z9), (7, .int z7), (6, .ref ((z + 1) + 6 + 4 * o.toNat)), (5, .ref ((z + 1) + 6 + 4 * t.toNat)), (4, .int z1), (0, .ref z), (1, .int xt), (2, .int xk), (3, .int xo)] := hl
    refine lv_iconst (v := (0 : Int32)) hx hb dX4_bestPhase_68 (by decide) ?_
    refine lv_istore hx hb dX4_bestPhase_69 hl (by decide) rfl (fun ls hl => ?_)
    have hl : lv_has ls 14 [(11, .int (0 : Int32)), (10, .int (0 : Int32)), (9, .int (-5 : Int32)), (8, .int z9), (7, .int z7), (6, .ref ((z + 1) + 6 + 4 * o.toNat)), (5, .ref ((z + 1) + 6 + 4 * t.toNat)), (4, .int z1), (0, .ref z), (1, .int xt), (2, .int xk), (3, .int xo)] := hl
    have cut71 : ∀ (n71 : Nat), ∀ (x9 : Int32) (i9 : Int) (_ : x9.toInt = i9) (x10 : Int32) (i10 : Int) (_ : x10.toInt = i10) (x11 : Int32) (i11 : Int) (_ : x11.toInt = i11), (25 - i11).toNat < n71 → (0 ≤ i11 ∧ i11 ≤ 25) → (i9 = (bpN (σ.1.2.2 t.toNat) (σ.1.2.2 o.toNat) (fgZ (σ.1.2.2 t.toNat) k - 1) (hbZ (σ.1.2.2 t.toNat) (fgZ (σ.1.2.2 t.toNat) k)) i11.toNat).1) → (i10 = (bpN (σ.1.2.2 t.toNat) (σ.1.2.2 o.toNat) (fgZ (σ.1.2.2 t.toNat) k - 1) (hbZ (σ.1.2.2 t.toNat) (fgZ (σ.1.2.2 t.toNat) k)) i11.toNat).2) → ∀ ls : Array Slot, lv_has ls 14 [(0, .ref z), (1, .int xt), (2, .int xk), (3, .int xo), (4, .int z1), (5, .ref ((z + 1) + 6 + 4 * t.toNat)), (6, .ref ((z + 1) + 6 + 4 * o.toNat)), (7, .int z7), (8, .int z9), (9, .int x9), (10, .int x10), (11, .int x11)] → W p l e rmX4_bestPhase s m ([.ref z, .int xt, .int xk, .int xo] : List Value).toArray below meth c s.heap [] 0 0 (MQ below (zS (fun v => v.toInt = a_bestPhase σ t k o)) ([.ref z, .int xt, .int xk, .int xo] : List Value).toArray s 0 0 zno) (F0 m 71 ls []) := by
      intro n71
      induction n71 with
      | zero =>
        intro x9 i9 hx9 x10 i10 hx10 x11 i11 hx11 hmu71 hi71_0 hi71_1 hi71_2 ls hl
        exact absurd hmu71 (Nat.not_lt_zero _)
      | succ n71 ih71 =>
        intro x9 i9 hx9 x10 i10 hx10 x11 i11 hx11 hmu71 hi71_0 hi71_1 hi71_2 ls hl
        refine lv_iload hx hb dX4_bestPhase_71 (lv_at hl 11 rfl) ?_
        refine lv_bipush (v := (24 : Int32)) hx hb dX4_bestPhase_73 (by decide) ?_
        refine z_icmp_gt (tgt := 149) hx hb hx11 kI_24 dX4_bestPhase_75 (by decide) (fun c_10 => ?_) (fun c_10 => ?_)
        · refine lv_iload hx hb dX4_bestPhase_149 (lv_at hl 9 rfl) ?_
          exact z_ri (v := x9) hx hb hr hlocks (show x9.toInt = a_bestPhase σ t k o from (by unfold a_bestPhase ahZ bhZ; rw [if_neg (by omega), hx9, hi71_1, show i11 = 25 by omega]; rfl)) dX4_bestPhase_151
        · refine lv_iload hx hb dX4_bestPhase_78 (lv_at hl 11 rfl) ?_
          refine z_cS (As := [.int x11]) (rest := []) ⟨hx, hb, hml, hown, hts⟩ (kX4_phaseOfStep l G x11 i11 hx11 (by first | assumption | omega)) (va_cwS 1 hts gX4_bestPhase_X4_phaseOfStep rfl rfl rfl hyX4_phaseOfStep ⟨Nat.le_of_ble_eq_true rfl, Nat.le_of_ble_eq_true rfl⟩) hK trivial rfl hl.1 rfl (Nat.le_of_ble_eq_true rfl) dX4_bestPhase_80 ⟨Nat.zero_le _, Nat.zero_le _⟩ (fun z11 e11 => ?_)
          have e11 : z11.toInt = phZ i11 := e11
          have hpb := phZ_b (k := i11) (by omega)
          refine lv_istore hx hb dX4_bestPhase_83 hl (by decide) rfl (fun ls hl => ?_)
          have hl : lv_has ls 14 [(12, .int z11), (0, .ref z), (1, .int xt), (2, .int xk), (3, .int xo), (4, .int z1), (5, .ref ((z + 1) + 6 + 4 * t.toNat)), (6, .ref ((z + 1) + 6 + 4 * o.toNat)), (7, .int z7), (8, .int z9), (9, .int x9), (10, .int x10), (11, .int x11)] := hl
          refine lv_aload hx hb dX4_bestPhase_85 (lv_at hl 7 rfl) ?_
          refine lv_iload hx hb dX4_bestPhase_87 (lv_at hl 8 rfl) ?_
          refine lv_iload hx hb dX4_bestPhase_89 (lv_at hl 0 rfl) ?_
          refine z_iadd hx hb e7 e11 dX4_bestPhase_91 (by omega) (fun z12 e12 => ?_)
          refine lv_iload hx hb dX4_bestPhase_92 (lv_at hl 9 rfl) ?_
          refine lv_iload hx hb dX4_bestPhase_94 (lv_at hl 0 rfl) ?_
          refine z_iadd hx hb e9 e11 dX4_bestPhase_96 (by omega) (fun z13 e13 => ?_)
          refine z_cV (As := [.int z12, .int z13]) (rest := []) ⟨hx, hb, hml, hown, hts⟩ (kX0_hasReadings l G ((z + 1) + 6 + 4 * o.toNat) (σ.1.2.2 o.toNat) z12 (((fgZ (σ.1.2.2 t.toNat) k) - (1 : Int)) + (phZ i11)) e12 z13 ((hbZ (σ.1.2.2 t.toNat) (fgZ (σ.1.2.2 t.toNat) k)) + (phZ i11)) e13 (by first | assumption | omega)) (cwV 2 hts gX4_bestPhase_X0_hasReadings rfl rfl rfl hyX0_hasReadings ⟨Nat.le_of_ble_eq_true rfl, Nat.le_of_ble_eq_true rfl⟩) hK hJ5 hJ5.1 rfl rfl hl.1 rfl (Nat.le_of_ble_eq_true rfl) dX4_bestPhase_97 ⟨Nat.zero_le _, Nat.zero_le _⟩ (fun z14 e14 => ?_)
          have e14 : isB z14 (∀ j : Int, (((fgZ (σ.1.2.2 t.toNat) k) - (1 : Int)) + (phZ i11)) ≤ j → j ≤ ((hbZ (σ.1.2.2 t.toNat) (fgZ (σ.1.2.2 t.toNat) k)) + (phZ i11)) → kindZ (σ.1.2.2 o.toNat) j = 0) := e14
          refine z_ifb_eq (tgt := 143) hx hb e14 dX4_bestPhase_100 (by decide) (fun c_15 => ?_) (fun c_15 => ?_)
          · refine z_iinc (k := 12) hx hb dX4_bestPhase_143 hl rfl hx11 (show (Int32.ofInt 1).toInt = (1 : Int) from rfl) (by omega) (by decide) (fun z16 e16 ls hl => ?_)
            have hl : lv_has ls 14 [(11, .int z16), (12, .int z11), (0, .ref z), (1, .int xt), (2, .int xk), (3, .int xo), (4, .int z1), (5, .ref ((z + 1) + 6 + 4 * t.toNat)), (6, .ref ((z + 1) + 6 + 4 * o.toNat)), (7, .int z7), (8, .int z9), (9, .int x9), (10, .int x10)] := hl
            refine lv_goto (tgt := 71) hx hb dX4_bestPhase_146 (by decide) ?_
            exact ih71 x9 i9 hx9 x10 i10 hx10 z16 (i11 + (1 : Int)) e16 (by omega) (by omega) (by have hb9 := bpN_f (d := σ.1.2.2 t.toNat) (o := σ.1.2.2 o.toNat) (a := fgZ (σ.1.2.2 t.toNat) k - 1) (b := hbZ (σ.1.2.2 t.toNat) (fgZ (σ.1.2.2 t.toNat) k)) (i := i11) (by omega) rfl (by assumption); rw [hb9]; exact hi71_1) (by have hb9 := bpN_f (d := σ.1.2.2 t.toNat) (o := σ.1.2.2 o.toNat) (a := fgZ (σ.1.2.2 t.toNat) k - 1) (b := hbZ (σ.1.2.2 t.toNat) (fgZ (σ.1.2.2 t.toNat) k)) (i := i11) (by omega) rfl (by assumption); rw [hb9]; exact hi71_2) ls (lv_sub hl [2, 3, 4, 5, 6, 7, 8, 9, 10, 11, 12, 0] rfl)
          · refine lv_aload hx hb dX4_bestPhase_103 (lv_at hl 6 rfl) ?_
            refine lv_iload hx hb dX4_bestPhase_105 (lv_at hl 8 rfl) ?_
            refine lv_iload hx hb dX4_bestPhase_107 (lv_at hl 9 rfl) ?_
            refine lv_aload hx hb dX4_bestPhase_109 (lv_at hl 7 rfl) ?_
            refine lv_iload hx hb dX4_bestPhase_111 (lv_at hl 0 rfl) ?_
            refine z_cV (As := [.int z7, .int z9, .ref ((z + 1) + 6 + 4 * o.toNat), .int z11]) (rest := []) ⟨hx, hb, hml, hown, hts⟩ (kX0_misfitAround l G ((z + 1) + 6 + 4 * t.toNat) (σ.1.2.2 t.toNat) ((z + 1) + 6 + 4 * o.toNat) (σ.1.2.2 o.toNat) z7 ((fgZ (σ.1.2.2 t.toNat) k) - (1 : Int)) e7 z9 (hbZ (σ.1.2.2 t.toNat) (fgZ (σ.1.2.2 t.toNat) k)) e9 z11 (phZ i11) e11 hsm hso (by first | assumption | omega)) (cwV 4 hts gX4_bestPhase_X0_misfitAround rfl rfl rfl hyX0_misfitAround ⟨Nat.le_of_ble_eq_true rfl, Nat.le_of_ble_eq_true rfl⟩) hK ⟨hJ4, hJ5⟩ hJ4.1 rfl rfl hl.1 rfl (Nat.le_of_ble_eq_true rfl) dX4_bestPhase_113 ⟨Nat.zero_le _, Nat.zero_le _⟩ (fun z17 e17 => ?_)
            have e17 : z17.toInt = sumZ (mfT (σ.1.2.2 t.toNat) (σ.1.2.2 o.toNat) (phZ i11)) (((fgZ (σ.1.2.2 t.toNat) k) - (1 : Int)) - 11) 12 + sumZ (mfT (σ.1.2.2 t.toNat) (σ.1.2.2 o.toNat) (phZ i11)) ((hbZ (σ.1.2.2 t.toNat) (fgZ (σ.1.2.2 t.toNat) k)) + 1) 12 := e17
            have e17 : z17.toInt = mfZ (σ.1.2.2 t.toNat) (σ.1.2.2 o.toNat) (fgZ (σ.1.2.2 t.toNat) k - 1) (hbZ (σ.1.2.2 t.toNat) (fgZ (σ.1.2.2 t.toNat) k)) (phZ i11) := by rw [e17]; unfold mfZ; first | done | rfl
            have hmb := mfZ_b hsm hso (fgZ (σ.1.2.2 t.toNat) k - 1) (hbZ (σ.1.2.2 t.toNat) (fgZ (σ.1.2.2 t.toNat) k)) (phZ i11)
            refine lv_istore hx hb dX4_bestPhase_116 hl (by decide) rfl (fun ls hl => ?_)
            have hl : lv_has ls 14 [(13, .int z17), (12, .int z11), (0, .ref z), (1, .int xt), (2, .int xk), (3, .int xo), (4, .int z1), (5, .ref ((z + 1) + 6 + 4 * t.toNat)), (6, .ref ((z + 1) + 6 + 4 * o.toNat)), (7, .int z7), (8, .int z9), (9, .int x9), (10, .int x10), (11, .int x11)] := hl
            refine lv_iload hx hb dX4_bestPhase_118 (lv_at hl 11 rfl) ?_
            refine lv_bipush (v := (-5 : Int32)) hx hb dX4_bestPhase_120 (by decide) ?_
            refine z_icmp_eq (tgt := 132) hx hb hx9 kI_m5 dX4_bestPhase_122 (by decide) (fun c_18 => ?_) (fun c_18 => ?_)
            · refine lv_iload hx hb dX4_bestPhase_132 (lv_at hl 0 rfl) ?_
              refine lv_istore hx hb dX4_bestPhase_134 hl (by decide) rfl (fun ls hl => ?_)
              have hl : lv_has ls 14 [(10, .int z17), (13, .int z17), (12, .int z11), (0, .ref z), (1, .int xt), (2, .int xk), (3, .int xo), (4, .int z1), (5, .ref ((z + 1) + 6 + 4 * t.toNat)), (6, .ref ((z + 1) + 6 + 4 * o.toNat)), (7, .int z7), (8, .int z9), (9, .int x9), (11, .int x11)] := hl
              refine lv_iload hx hb dX4_bestPhase_136 (lv_at hl 2 rfl) ?_
              refine lv_bipush (v := (100 : Int32)) hx hb dX4_bestPhase_138 (by decide) ?_
              refine z_iadd hx hb e11 kI_100 dX4_bestPhase_140 (by omega) (fun z19 e19 => ?_)
              refine lv_istore hx hb dX4_bestPhase_141 hl (by decide) rfl (fun ls hl => ?_)
              have hl : lv_has ls 14 [(9, .int z19), (10, .int z17), (13, .int z17), (12, .int z11), (0, .ref z), (1, .int xt), (2, .int xk), (3, .int xo), (4, .int z1), (5, .ref ((z + 1) + 6 + 4 * t.toNat)), (6, .ref ((z + 1) + 6 + 4 * o.toNat)), (7, .int z7), (8, .int z9), (11, .int x11)] := hl
              refine z_iinc (k := 13) hx hb dX4_bestPhase_143 hl rfl hx11 (show (Int32.ofInt 1).toInt = (1 : Int) from rfl) (by omega) (by decide) (fun z20 e20 ls hl => ?_)
              have hl : lv_has ls 14 [(11, .int z20), (9, .int z19), (10, .int z17), (13, .int z17), (12, .int z11), (0, .ref z), (1, .int xt), (2, .int xk), (3, .int xo), (4, .int z1), (5, .ref ((z + 1) + 6 + 4 * t.toNat)), (6, .ref ((z + 1) + 6 + 4 * o.toNat)), (7, .int z7), (8, .int z9)] := hl
              refine lv_goto (tgt := 71) hx hb dX4_bestPhase_146 (by decide) ?_
              exact ih71 z19 ((phZ i11) + (100 : Int)) e19 z17 (mfZ (σ.1.2.2 t.toNat) (σ.1.2.2 o.toNat) (fgZ (σ.1.2.2 t.toNat) k - 1) (hbZ (σ.1.2.2 t.toNat) (fgZ (σ.1.2.2 t.toNat) k)) (phZ i11)) e17 z20 (i11 + (1 : Int)) e20 (by omega) (by omega) (by have hb9 := bpN_t (d := σ.1.2.2 t.toNat) (o := σ.1.2.2 o.toNat) (a := fgZ (σ.1.2.2 t.toNat) k - 1) (b := hbZ (σ.1.2.2 t.toNat) (fgZ (σ.1.2.2 t.toNat) k)) (i := i11) (by omega) rfl (by assumption) rfl (Or.inl (by omega)); exact congrArg Prod.fst hb9.symm) (by have hb9 := bpN_t (d := σ.1.2.2 t.toNat) (o := σ.1.2.2 o.toNat) (a := fgZ (σ.1.2.2 t.toNat) k - 1) (b := hbZ (σ.1.2.2 t.toNat) (fgZ (σ.1.2.2 t.toNat) k)) (i := i11) (by omega) rfl (by assumption) rfl (Or.inl (by omega)); exact congrArg Prod.snd hb9.symm) ls (lv_sub hl [5, 6, 7, 8, 9, 10, 11, 12, 13, 1, 2, 0] rfl)
            · refine lv_iload hx hb dX4_bestPhase_125 (lv_at hl 0 rfl) ?_
              refine lv_iload hx hb dX4_bestPhase_127 (lv_at hl 12 rfl) ?_
              refine z_icmp_ge (tgt := 143) hx hb e17 hx10 dX4_bestPhase_129 (by decide) (fun c_21 => ?_) (fun c_21 => ?_)
              · refine z_iinc (k := 13) hx hb dX4_bestPhase_143 hl rfl hx11 (show (Int32.ofInt 1).toInt = (1 : Int) from rfl) (by omega) (by decide) (fun z22 e22 ls hl => ?_)
                have hl : lv_has ls 14 [(11, .int z22), (13, .int z17), (12, .int z11), (0, .ref z), (1, .int xt), (2, .int xk), (3, .int xo), (4, .int z1), (5, .ref ((z + 1) + 6 + 4 * t.toNat)), (6, .ref ((z + 1) + 6 + 4 * o.toNat)), (7, .int z7), (8, .int z9), (9, .int x9), (10, .int x10)] := hl
                refine lv_goto (tgt := 71) hx hb dX4_bestPhase_146 (by decide) ?_
                exact ih71 x9 i9 hx9 x10 i10 hx10 z22 (i11 + (1 : Int)) e22 (by omega) (by omega) (by have hb9 := bpN_n (d := σ.1.2.2 t.toNat) (o := σ.1.2.2 o.toNat) (a := fgZ (σ.1.2.2 t.toNat) k - 1) (b := hbZ (σ.1.2.2 t.toNat) (fgZ (σ.1.2.2 t.toNat) k)) (i := i11) (by omega) rfl rfl (by omega) (by omega); rw [hb9]; exact hi71_1) (by have hb9 := bpN_n (d := σ.1.2.2 t.toNat) (o := σ.1.2.2 o.toNat) (a := fgZ (σ.1.2.2 t.toNat) k - 1) (b := hbZ (σ.1.2.2 t.toNat) (fgZ (σ.1.2.2 t.toNat) k)) (i := i11) (by omega) rfl rfl (by omega) (by omega); rw [hb9]; exact hi71_2) ls (lv_sub hl [3, 4, 5, 6, 7, 8, 9, 10, 11, 12, 13, 0] rfl)
              · refine lv_iload hx hb dX4_bestPhase_132 (lv_at hl 0 rfl) ?_
                refine lv_istore hx hb dX4_bestPhase_134 hl (by decide) rfl (fun ls hl => ?_)
                have hl : lv_has ls 14 [(10, .int z17), (13, .int z17), (12, .int z11), (0, .ref z), (1, .int xt), (2, .int xk), (3, .int xo), (4, .int z1), (5, .ref ((z + 1) + 6 + 4 * t.toNat)), (6, .ref ((z + 1) + 6 + 4 * o.toNat)), (7, .int z7), (8, .int z9), (9, .int x9), (11, .int x11)] := hl
                refine lv_iload hx hb dX4_bestPhase_136 (lv_at hl 2 rfl) ?_
                refine lv_bipush (v := (100 : Int32)) hx hb dX4_bestPhase_138 (by decide) ?_
                refine z_iadd hx hb e11 kI_100 dX4_bestPhase_140 (by omega) (fun z23 e23 => ?_)
                refine lv_istore hx hb dX4_bestPhase_141 hl (by decide) rfl (fun ls hl => ?_)
                have hl : lv_has ls 14 [(9, .int z23), (10, .int z17), (13, .int z17), (12, .int z11), (0, .ref z), (1, .int xt), (2, .int xk), (3, .int xo), (4, .int z1), (5, .ref ((z + 1) + 6 + 4 * t.toNat)), (6, .ref ((z + 1) + 6 + 4 * o.toNat)), (7, .int z7), (8, .int z9), (11, .int x11)] := hl
                refine z_iinc (k := 13) hx hb dX4_bestPhase_143 hl rfl hx11 (show (Int32.ofInt 1).toInt = (1 : Int) from rfl) (by omega) (by decide) (fun z24 e24 ls hl => ?_)
                have hl : lv_has ls 14 [(11, .int z24), (9, .int z23), (10, .int z17), (13, .int z17), (12, .int z11), (0, .ref z), (1, .int xt), (2, .int xk), (3, .int xo), (4, .int z1), (5, .ref ((z + 1) + 6 + 4 * t.toNat)), (6, .ref ((z + 1) + 6 + 4 * o.toNat)), (7, .int z7), (8, .int z9)] := hl
                refine lv_goto (tgt := 71) hx hb dX4_bestPhase_146 (by decide) ?_
                exact ih71 z23 ((phZ i11) + (100 : Int)) e23 z17 (mfZ (σ.1.2.2 t.toNat) (σ.1.2.2 o.toNat) (fgZ (σ.1.2.2 t.toNat) k - 1) (hbZ (σ.1.2.2 t.toNat) (fgZ (σ.1.2.2 t.toNat) k)) (phZ i11)) e17 z24 (i11 + (1 : Int)) e24 (by omega) (by omega) (by have hb9 := bpN_t (d := σ.1.2.2 t.toNat) (o := σ.1.2.2 o.toNat) (a := fgZ (σ.1.2.2 t.toNat) k - 1) (b := hbZ (σ.1.2.2 t.toNat) (fgZ (σ.1.2.2 t.toNat) k)) (i := i11) (by omega) rfl (by assumption) rfl (Or.inr (by omega)); exact congrArg Prod.fst hb9.symm) (by have hb9 := bpN_t (d := σ.1.2.2 t.toNat) (o := σ.1.2.2 o.toNat) (a := fgZ (σ.1.2.2 t.toNat) k - 1) (b := hbZ (σ.1.2.2 t.toNat) (fgZ (σ.1.2.2 t.toNat) k)) (i := i11) (by omega) rfl (by assumption) rfl (Or.inr (by omega)); exact congrArg Prod.snd hb9.symm) ls (lv_sub hl [5, 6, 7, 8, 9, 10, 11, 12, 13, 1, 2, 0] rfl)
    exact cut71 (((25 - (0 : Int)).toNat) + 1) (-5 : Int32) (-5 : Int) kI_m5 (0 : Int32) (0 : Int) kI_0 (0 : Int32) (0 : Int) kI_0 (Nat.lt_succ_self _) (by omega) rfl rfl ls (lv_sub hl [8, 9, 10, 11, 7, 6, 5, 4, 3, 2, 1, 0] rfl)
  · refine lv_iload hx hb dX4_bestPhase_15 (lv_at hl 0 rfl) ?_
    exact z_ri (v := z1) hx hb hr hlocks (show z1.toInt = a_bestPhase σ t k o from (by unfold a_bestPhase; (repeat' split) <;> first | rfl | omega | contradiction | assumption)) dX4_bestPhase_17

abbrev rmX4_high : Room := { frames := 4, cells := 0, slots := 0, locals := 84 }
theorem iwX4_high_2 : ∀ w ∈ wsX20, w ∈ wsX4_high := fun _ h => List.mem_cons_of_mem _ (List.mem_append_left _ (List.mem_append_right _ h))
theorem iwX4_high_4 : ∀ w ∈ wsX40, w ∈ wsX4_high := fun _ h => List.mem_cons_of_mem _ (List.mem_append_left _ (List.mem_append_left _ (List.mem_append_right _ h)))
theorem flX4_high_10 : Cond.fieldLink RX4 10 "SiltedFloats" "now" "LSiltedFloats$State;" ∈ wsX4_high := by decide +kernel
theorem flX4_high_66 : Cond.fieldLink RX4 66 "SiltedFloats$State" "gauges" "[LSiltedFloats$Gauge;" ∈ wsX4_high := by decide +kernel
theorem hyX4_high : yX4_high.cls = RX4 ∧ yX4_high.cls ≠ "java/lang/invoke/MethodHandle" ∧ yX4_high.cls ≠ "java/lang/invoke/VarHandle" ∧ (parseMethodDescriptor yX4_high.desc).map (fun d => d.parameters.length) = some 2 := by decide +kernel
set_option maxHeartbeats 4000000 in
set_option maxRecDepth 100000 in
theorem kX4_high (l : Launch) (G : xG) (z : Nat) (σ : FD) (xt : Int32) (t : Int) (e_xt : xt.toInt = t) (xk : Int32) (k : Int) (e_xk : xk.toInt = k) (hok : fdOk σ) : Met l yX4_high wsX4_high rmX4_high (va_Pc [.ref z, .int xt, .int xk] (zPre G (fun H => SFP G H z σ))) (zS (fun v => v.toInt = a_high σ t k)) 0 0 zno := by
  refine z_ofW (cc := cX4_high) (maxL := 6) (ret := some .int) (by decide +kernel) rfl (Nat.le_of_ble_eq_true rfl) ?_
  intro p e s m below meth c hx hb hml hr hts hown hlocks hK hP ls hl
  have hF := hP
  have hown : s.vm.findClass RX4 = some m.cls := hown
  have hl : lv_has ls 6 [(0, .ref z), (1, .int xt), (2, .int xk)] := hl
  have hok1 := hok.1
  have hokh := hok1.1
  refine lv_iload_n hx hb dX4_high_0 rfl (lv_at hl 1 rfl) ?_
  refine z_cS (As := [.int xt]) (rest := []) ⟨hx, hb, hml, hown, hts⟩ (kX4_isStation l G xt t e_xt) (va_cwS 1 hts gX4_high_X4_isStation rfl rfl rfl hyX4_isStation ⟨Nat.le_of_ble_eq_true rfl, Nat.le_of_ble_eq_true rfl⟩) hK trivial rfl hl.1 rfl (Nat.le_of_ble_eq_true rfl) dX4_high_1 ⟨Nat.zero_le _, Nat.zero_le _⟩ (fun z1 e1 => ?_)
  have e1 : isB z1 (0 ≤ t ∧ t < 3) := e1
  refine z_ifb_ne (tgt := 9) hx hb e1 dX4_high_4 (by decide) (fun c_2 => ?_) (fun c_2 => ?_)
  · have hgo := hok1.2.2 t.toNat (by omega)
    have hgb := hgo.1
    have hg2 := hgo.2.1
    have hg3 := hgo.2.2.1
    have hsm := hgo.small
    refine lv_iload_n hx hb dX4_high_9 rfl (lv_at hl 2 rfl) ?_
    refine z_if_ge (tgt := 16) hx hb e_xk dX4_high_10 (by decide) (fun c_3 => ?_) (fun c_3 => ?_)
    · refine lv_aload_n hx hb dX4_high_16 rfl (lv_at hl 0 rfl) ?_
      have hN4 : ST G s.heap (z + 1) σ.1 := hF.now
      refine z_get hx hb hts iwX4_high_4 hown hK hF.1 rfl 0 (by decide) flX4_high_10 rfl (v := .ref (z + 1)) rfl dX4_high_17 ?_
      refine z_get hx hb hts iwX4_high_2 hown hK hN4.1 rfl 2 (by decide) flX4_high_66 rfl (v := .ref ((z + 1) + 5)) rfl dX4_high_20 ?_
      refine lv_iload_n hx hb dX4_high_23 rfl (lv_at hl 1 rfl) ?_
      have hJ5 : GA G s.heap ((z + 1) + 6 + 4 * t.toNat) (σ.1.2.2 t.toNat) := hN4.gauge (i := t.toNat) (by omega)
      refine z_aald (b := (z + 1) + 6 + 4 * t.toNat) hx hb hK 3 hN4.2.2.1 rfl e_xt (by omega) rfl dX4_high_24 ?_
      refine lv_astore_n hx hb dX4_high_25 rfl hl (by decide) rfl (fun ls hl => ?_)
      have hl : lv_has ls 6 [(3, .ref ((z + 1) + 6 + 4 * t.toNat)), (0, .ref z), (1, .int xt), (2, .int xk)] := hl
      refine lv_iconst (v := (0 : Int32)) hx hb dX4_high_26 (by decide) ?_
      refine lv_istore hx hb dX4_high_27 hl (by decide) rfl (fun ls hl => ?_)
      have hl : lv_has ls 6 [(4, .int (0 : Int32)), (3, .ref ((z + 1) + 6 + 4 * t.toNat)), (0, .ref z), (1, .int xt), (2, .int xk)] := hl
      refine lv_iconst (v := (1 : Int32)) hx hb dX4_high_29 (by decide) ?_
      refine lv_istore hx hb dX4_high_30 hl (by decide) rfl (fun ls hl => ?_)
      have hl : lv_has ls 6 [(5, .int (1 : Int32)), (4, .int (0 : Int32)), (3, .ref ((z + 1) + 6 + 4 * t.toNat)), (0, .ref z), (1, .int xt), (2, .int xk)] := hl
      have cut32 : ∀ (n32 : Nat), ∀ (x4 : Int32) (i4 : Int) (_ : x4.toInt = i4) (x5 : Int32) (i5 : Int) (_ : x5.toInt = i5), (119 - i5).toNat < n32 → (1 ≤ i5 ∧ i5 ≤ 119) → (i4 = cntZ (fun j => hiP (σ.1.2.2 t.toNat) (j : Int)) i5.toNat) → (nthZ (fun j => hiP (σ.1.2.2 t.toNat) (j : Int)) k i5.toNat = -1) → ∀ ls : Array Slot, lv_has ls 6 [(0, .ref z), (1, .int xt), (2, .int xk), (3, .ref ((z + 1) + 6 + 4 * t.toNat)), (4, .int x4), (5, .int x5)] → W p l e rmX4_high s m ([.ref z, .int xt, .int xk] : List Value).toArray below meth c s.heap [] 0 0 (MQ below (zS (fun v => v.toInt = a_high σ t k)) ([.ref z, .int xt, .int xk] : List Value).toArray s 0 0 zno) (F0 m 32 ls []) := by
        intro n32
        induction n32 with
        | zero =>
          intro x4 i4 hx4 x5 i5 hx5 hmu32 hi32_0 hi32_1 hi32_2 ls hl
          exact absurd hmu32 (Nat.not_lt_zero _)
        | succ n32 ih32 =>
          intro x4 i4 hx4 x5 i5 hx5 hmu32 hi32_0 hi32_1 hi32_2 ls hl
          have hcb := cntZ_b (fun j => hiP (σ.1.2.2 t.toNat) (j : Int)) i5.toNat
          refine lv_iload hx hb dX4_high_32 (lv_at hl 5 rfl) ?_
          refine lv_bipush (v := (119 : Int32)) hx hb dX4_high_34 (by decide) ?_
          refine z_icmp_ge (tgt := 66) hx hb hx5 kI_119 dX4_high_36 (by decide) (fun c_6 => ?_) (fun c_6 => ?_)
          · refine lv_bipush (v := (-5 : Int32)) hx hb dX4_high_66 (by decide) ?_
            exact z_ri (v := (-5 : Int32)) hx hb hr hlocks (show (-5 : Int32).toInt = a_high σ t k from (by unfold a_high hgZ; rw [if_neg (by omega), if_neg (by omega), if_pos (by rw [show i5 = 119 by omega] at hi32_2; exact hi32_2)]; rfl)) dX4_high_68
          · refine lv_aload_n hx hb dX4_high_39 rfl (lv_at hl 3 rfl) ?_
            refine lv_iload hx hb dX4_high_40 (lv_at hl 5 rfl) ?_
            refine z_cV (As := [.int x5]) (rest := []) ⟨hx, hb, hml, hown, hts⟩ (kX0_isHighAt l G ((z + 1) + 6 + 4 * t.toNat) (σ.1.2.2 t.toNat) x5 i5 hx5 hsm (by first | assumption | omega)) (cwV 1 hts gX4_high_X0_isHighAt rfl rfl rfl hyX0_isHighAt ⟨Nat.le_of_ble_eq_true rfl, Nat.le_of_ble_eq_true rfl⟩) hK hJ5 hJ5.1 rfl rfl hl.1 rfl (Nat.le_of_ble_eq_true rfl) dX4_high_42 ⟨Nat.zero_le _, Nat.zero_le _⟩ (fun z7 e7 => ?_)
            have e7 : isB z7 (hiP (σ.1.2.2 t.toNat) i5) := e7
            refine z_ifb_eq (tgt := 60) hx hb e7 dX4_high_45 (by decide) (fun c_8 => ?_) (fun c_8 => ?_)
            · refine z_iinc (k := 5) hx hb dX4_high_60 hl rfl hx5 (show (Int32.ofInt 1).toInt = (1 : Int) from rfl) (by omega) (by decide) (fun z9 e9 ls hl => ?_)
              have hl : lv_has ls 6 [(5, .int z9), (0, .ref z), (1, .int xt), (2, .int xk), (3, .ref ((z + 1) + 6 + 4 * t.toNat)), (4, .int x4)] := hl
              refine lv_goto (tgt := 32) hx hb dX4_high_63 (by decide) ?_
              exact ih32 x4 i4 hx4 z9 (i5 + (1 : Int)) e9 (by omega) (by omega) (by rw [cntI_f (q := hiP (σ.1.2.2 t.toNat)) (by omega) (by assumption)]; omega) (nthI_step (q := hiP (σ.1.2.2 t.toNat)) (by omega) hi32_2 (fun q => absurd q.1 (by assumption))) ls (lv_sub hl [1, 2, 3, 4, 5, 0] rfl)
            · refine lv_iload hx hb dX4_high_48 (lv_at hl 4 rfl) ?_
              refine lv_iload_n hx hb dX4_high_50 rfl (lv_at hl 2 rfl) ?_
              refine z_icmp_ne (tgt := 57) hx hb hx4 e_xk dX4_high_51 (by decide) (fun c_10 => ?_) (fun c_10 => ?_)
              · refine z_iinc (k := 4) hx hb dX4_high_57 hl rfl hx4 (show (Int32.ofInt 1).toInt = (1 : Int) from rfl) (by omega) (by decide) (fun z11 e11 ls hl => ?_)
                have hl : lv_has ls 6 [(4, .int z11), (0, .ref z), (1, .int xt), (2, .int xk), (3, .ref ((z + 1) + 6 + 4 * t.toNat)), (5, .int x5)] := hl
                refine z_iinc (k := 5) hx hb dX4_high_60 hl rfl hx5 (show (Int32.ofInt 1).toInt = (1 : Int) from rfl) (by omega) (by decide) (fun z12 e12 ls hl => ?_)
                have hl : lv_has ls 6 [(5, .int z12), (4, .int z11), (0, .ref z), (1, .int xt), (2, .int xk), (3, .ref ((z + 1) + 6 + 4 * t.toNat))] := hl
                refine lv_goto (tgt := 32) hx hb dX4_high_63 (by decide) ?_
                exact ih32 z11 (i4 + (1 : Int)) e11 z12 (i5 + (1 : Int)) e12 (by omega) (by omega) (by rw [cntI_t (q := hiP (σ.1.2.2 t.toNat)) (by omega) (by assumption)]; omega) (nthI_step (q := hiP (σ.1.2.2 t.toNat)) (by omega) hi32_2 (fun q => by omega)) ls (lv_sub hl [2, 3, 4, 5, 1, 0] rfl)
              · refine lv_iload hx hb dX4_high_54 (lv_at hl 5 rfl) ?_
                exact z_ri (v := x5) hx hb hr hlocks (show x5.toInt = a_high σ t k from (by unfold a_high hgZ; have hh9 := nthI_hit (q := hiP (σ.1.2.2 t.toNat)) (n := 119) (by omega) hi32_2 (by assumption) (by omega) (by omega); rw [if_neg (by omega), if_neg (by omega), hh9, if_neg (by omega)]; exact hx5)) dX4_high_56
      exact cut32 (((119 - (1 : Int)).toNat) + 1) (0 : Int32) (0 : Int) kI_0 (1 : Int32) (1 : Int) kI_1 (Nat.lt_succ_self _) (by omega) (cntI_f (q := hiP (σ.1.2.2 t.toNat)) (i := 0) (by omega) (hi0 _)).symm (nthI_step (q := hiP (σ.1.2.2 t.toNat)) (i := 0) (by omega) rfl (fun q => hi0 _ q.1)) ls (lv_sub hl [3, 4, 5, 2, 1, 0] rfl)
    · refine lv_bipush (v := (-2 : Int32)) hx hb dX4_high_13 (by decide) ?_
      exact z_ri (v := (-2 : Int32)) hx hb hr hlocks (show (-2 : Int32).toInt = a_high σ t k from (by unfold a_high; (repeat' split) <;> first | rfl | omega | contradiction | assumption)) dX4_high_15
  · refine lv_iconst (v := (-1 : Int32)) hx hb dX4_high_7 (by decide) ?_
    exact z_ri (v := (-1 : Int32)) hx hb hr hlocks (show (-1 : Int32).toInt = a_high σ t k from (by unfold a_high; (repeat' split) <;> first | rfl | omega | contradiction | assumption)) dX4_high_8

abbrev rmX4_count : Room := { frames := 2, cells := 0, slots := 0, locals := 46 }
theorem iwX4_count_1 : ∀ w ∈ wsX10, w ∈ wsX4_count := fun _ h => List.mem_cons_of_mem _ (List.mem_append_left _ (List.mem_append_right _ h))
theorem iwX4_count_2 : ∀ w ∈ wsX20, w ∈ wsX4_count := fun _ h => List.mem_cons_of_mem _ (List.mem_append_left _ (List.mem_append_left _ (List.mem_append_right _ h)))
theorem iwX4_count_4 : ∀ w ∈ wsX40, w ∈ wsX4_count := fun _ h => List.mem_cons_of_mem _ (List.mem_append_left _ (List.mem_append_left _ (List.mem_append_left _ (List.mem_append_right _ h))))
theorem flX4_count_10 : Cond.fieldLink RX4 10 "SiltedFloats" "now" "LSiltedFloats$State;" ∈ wsX4_count := by decide +kernel
theorem flX4_count_117 : Cond.fieldLink RX4 117 "SiltedFloats$OrderText" "length" "I" ∈ wsX4_count := by decide +kernel
theorem flX4_count_162 : Cond.fieldLink RX4 162 "SiltedFloats" "pastCount" "I" ∈ wsX4_count := by decide +kernel
theorem flX4_count_26 : Cond.fieldLink RX4 26 "SiltedFloats" "text" "LSiltedFloats$OrderText;" ∈ wsX4_count := by decide +kernel
theorem flX4_count_34 : Cond.fieldLink RX4 34 "SiltedFloats$State" "hour" "I" ∈ wsX4_count := by decide +kernel
theorem hyX4_count : yX4_count.cls = RX4 ∧ yX4_count.cls ≠ "java/lang/invoke/MethodHandle" ∧ yX4_count.cls ≠ "java/lang/invoke/VarHandle" ∧ (parseMethodDescriptor yX4_count.desc).map (fun d => d.parameters.length) = some 1 := by decide +kernel
set_option maxHeartbeats 4000000 in
set_option maxRecDepth 100000 in
theorem kX4_count (l : Launch) (G : xG) (z : Nat) (σ : FD) (xw : Int32) (w : Int) (e_xw : xw.toInt = w) (hok : fdOk σ) : Met l yX4_count wsX4_count rmX4_count (va_Pc [.ref z, .int xw] (zPre G (fun H => SFP G H z σ))) (zS (fun v => v.toInt = a_count σ w)) 0 0 zno := by
  refine z_ofW (cc := cX4_count) (maxL := 2) (ret := some .int) (by decide +kernel) rfl (Nat.le_of_ble_eq_true rfl) ?_
  intro p e s m below meth c hx hb hml hr hts hown hlocks hK hP ls hl
  have hF := hP
  have hown : s.vm.findClass RX4 = some m.cls := hown
  have hl : lv_has ls 2 [(0, .ref z), (1, .int xw)] := hl
  have hok1 := hok.1
  have hokh := hok1.1
  refine lv_iload_n hx hb dX4_count_0 rfl (lv_at hl 1 rfl) ?_
  rcases (show w < 0 ∨ 6 < w ∨ w = 0 ∨ w = 1 ∨ w = 2 ∨ w = 3 ∨ w = 4 ∨ w = 5 ∨ w = 6 from by omega) with c_1 | c_1 | c_1 | c_1 | c_1 | c_1 | c_1 | c_1 | c_1
  · refine lv_tableOut (tgt := 109) hx hb dX4_count_1 (by rw [e_xw]; omega) (by decide) ?_
    refine lv_bipush (v := (-2 : Int32)) hx hb dX4_count_109 (by decide) ?_
    exact z_ri (v := (-2 : Int32)) hx hb hr hlocks (show (-2 : Int32).toInt = a_count σ w from (by rw [a_count_out (by omega)]; rfl)) dX4_count_111
  · refine lv_tableOut (tgt := 109) hx hb dX4_count_1 (by rw [e_xw]; omega) (by decide) ?_
    refine lv_bipush (v := (-2 : Int32)) hx hb dX4_count_109 (by decide) ?_
    exact z_ri (v := (-2 : Int32)) hx hb hr hlocks (show (-2 : Int32).toInt = a_count σ w from (by rw [a_count_out (by omega)]; rfl)) dX4_count_111
  · refine lv_tableIn (off := 43) (tgt := 44) hx hb dX4_count_1 (by rw [e_xw]; omega) (by rw [e_xw]; omega) (by rw [e_xw, c_1]; rfl) (by decide) ?_
    refine lv_aload_n hx hb dX4_count_44 rfl (lv_at hl 0 rfl) ?_
    have hN2 : ST G s.heap (z + 1) σ.1 := hF.now
    refine z_get hx hb hts iwX4_count_4 hown hK hF.1 rfl 0 (by decide) flX4_count_10 rfl (v := .ref (z + 1)) rfl dX4_count_45 ?_
    refine z_get hx hb hts iwX4_count_2 hown hK hN2.1 rfl 0 (by decide) flX4_count_34 rfl (v := .int σ.1.1) rfl dX4_count_48 ?_
    exact z_ri (v := σ.1.1) hx hb hr hlocks (show σ.1.1.toInt = a_count σ w from (by rw [show w = 0 by omega]; exact rfl)) dX4_count_51
  · refine lv_tableIn (off := 51) (tgt := 52) hx hb dX4_count_1 (by rw [e_xw]; omega) (by rw [e_xw]; omega) (by rw [e_xw, c_1]; rfl) (by decide) ?_
    refine lv_aload_n hx hb dX4_count_52 rfl (lv_at hl 0 rfl) ?_
    have hN3 : ST G s.heap (z + 1) σ.1 := hF.now
    refine z_get hx hb hts iwX4_count_4 hown hK hF.1 rfl 0 (by decide) flX4_count_10 rfl (v := .ref (z + 1)) rfl dX4_count_53 ?_
    refine z_cV (As := []) (rest := []) ⟨hx, hb, hml, hown, hts⟩ (kX2_stationsOn l G (z + 1) σ.1) (cwV 0 hts gX4_count_X2_stationsOn rfl rfl rfl hyX2_stationsOn ⟨Nat.le_of_ble_eq_true rfl, Nat.le_of_ble_eq_true rfl⟩) hK hN3 hN3.1 rfl rfl hl.1 rfl (Nat.le_of_ble_eq_true rfl) dX4_count_56 ⟨Nat.zero_le _, Nat.zero_le _⟩ (fun z4 e4 => ?_)
    have e4 : z4.toInt = onN σ.1.2.2 3 := e4
    exact z_ri (v := z4) hx hb hr hlocks (show z4.toInt = a_count σ w from (by rw [show w = 1 by omega]; exact e4)) dX4_count_59
  · refine lv_tableIn (off := 59) (tgt := 60) hx hb dX4_count_1 (by rw [e_xw]; omega) (by rw [e_xw]; omega) (by rw [e_xw, c_1]; rfl) (by decide) ?_
    refine lv_aload_n hx hb dX4_count_60 rfl (lv_at hl 0 rfl) ?_
    have hN5 : ST G s.heap (z + 1) σ.1 := hF.now
    refine z_get hx hb hts iwX4_count_4 hown hK hF.1 rfl 0 (by decide) flX4_count_10 rfl (v := .ref (z + 1)) rfl dX4_count_61 ?_
    refine lv_iconst (v := (0 : Int32)) hx hb dX4_count_64 (by decide) ?_
    refine z_cV (As := [.int (0 : Int32)]) (rest := []) ⟨hx, hb, hml, hown, hts⟩ (kX2_hoursOfKind l G (z + 1) σ.1 (0 : Int32) (0 : Int) kI_0) (cwV 1 hts gX4_count_X2_hoursOfKind rfl rfl rfl hyX2_hoursOfKind ⟨Nat.le_of_ble_eq_true rfl, Nat.le_of_ble_eq_true rfl⟩) hK hN5 hN5.1 rfl rfl hl.1 rfl (Nat.le_of_ble_eq_true rfl) dX4_count_65 ⟨Nat.zero_le _, Nat.zero_le _⟩ (fun z6 e6 => ?_)
    have e6 : z6.toInt = hkN σ.1.2.2 (0 : Int) 3 := e6
    exact z_ri (v := z6) hx hb hr hlocks (show z6.toInt = a_count σ w from (by rw [show w = 2 by omega]; exact e6)) dX4_count_68
  · refine lv_tableIn (off := 68) (tgt := 69) hx hb dX4_count_1 (by rw [e_xw]; omega) (by rw [e_xw]; omega) (by rw [e_xw, c_1]; rfl) (by decide) ?_
    refine lv_aload_n hx hb dX4_count_69 rfl (lv_at hl 0 rfl) ?_
    have hN7 : ST G s.heap (z + 1) σ.1 := hF.now
    refine z_get hx hb hts iwX4_count_4 hown hK hF.1 rfl 0 (by decide) flX4_count_10 rfl (v := .ref (z + 1)) rfl dX4_count_70 ?_
    refine lv_iconst (v := (1 : Int32)) hx hb dX4_count_73 (by decide) ?_
    refine z_cV (As := [.int (1 : Int32)]) (rest := []) ⟨hx, hb, hml, hown, hts⟩ (kX2_hoursOfKind l G (z + 1) σ.1 (1 : Int32) (1 : Int) kI_1) (cwV 1 hts gX4_count_X2_hoursOfKind rfl rfl rfl hyX2_hoursOfKind ⟨Nat.le_of_ble_eq_true rfl, Nat.le_of_ble_eq_true rfl⟩) hK hN7 hN7.1 rfl rfl hl.1 rfl (Nat.le_of_ble_eq_true rfl) dX4_count_74 ⟨Nat.zero_le _, Nat.zero_le _⟩ (fun z8 e8 => ?_)
    have e8 : z8.toInt = hkN σ.1.2.2 (1 : Int) 3 := e8
    have hkb := hkN_b σ.1.2.2 1 3
    refine lv_aload_n hx hb dX4_count_77 rfl (lv_at hl 0 rfl) ?_
    refine z_get hx hb hts iwX4_count_4 hown hK hF.1 rfl 0 (by decide) flX4_count_10 rfl (v := .ref (z + 1)) rfl dX4_count_78 ?_
    refine lv_iconst (v := (2 : Int32)) hx hb dX4_count_81 (by decide) ?_
    refine z_cV (As := [.int (2 : Int32)]) (rest := [.int z8]) ⟨hx, hb, hml, hown, hts⟩ (kX2_hoursOfKind l G (z + 1) σ.1 (2 : Int32) (2 : Int) kI_2) (cwV 1 hts gX4_count_X2_hoursOfKind rfl rfl rfl hyX2_hoursOfKind ⟨Nat.le_of_ble_eq_true rfl, Nat.le_of_ble_eq_true rfl⟩) hK hN7 hN7.1 rfl rfl hl.1 rfl (Nat.le_of_ble_eq_true rfl) dX4_count_82 ⟨Nat.zero_le _, Nat.zero_le _⟩ (fun z9 e9 => ?_)
    have e9 : z9.toInt = hkN σ.1.2.2 (2 : Int) 3 := e9
    have hkc := hkN_b σ.1.2.2 2 3
    refine z_iadd hx hb e8 e9 dX4_count_85 (by omega) (fun z10 e10 => ?_)
    exact z_ri (v := z10) hx hb hr hlocks (show z10.toInt = a_count σ w from (by rw [show w = 3 by omega]; exact e10)) dX4_count_86
  · refine lv_tableIn (off := 86) (tgt := 87) hx hb dX4_count_1 (by rw [e_xw]; omega) (by rw [e_xw]; omega) (by rw [e_xw, c_1]; rfl) (by decide) ?_
    refine lv_aload_n hx hb dX4_count_87 rfl (lv_at hl 0 rfl) ?_
    have hN11 : ST G s.heap (z + 1) σ.1 := hF.now
    refine z_get hx hb hts iwX4_count_4 hown hK hF.1 rfl 0 (by decide) flX4_count_10 rfl (v := .ref (z + 1)) rfl dX4_count_88 ?_
    refine lv_iconst (v := (2 : Int32)) hx hb dX4_count_91 (by decide) ?_
    refine z_cV (As := [.int (2 : Int32)]) (rest := []) ⟨hx, hb, hml, hown, hts⟩ (kX2_hoursOfKind l G (z + 1) σ.1 (2 : Int32) (2 : Int) kI_2) (cwV 1 hts gX4_count_X2_hoursOfKind rfl rfl rfl hyX2_hoursOfKind ⟨Nat.le_of_ble_eq_true rfl, Nat.le_of_ble_eq_true rfl⟩) hK hN11 hN11.1 rfl rfl hl.1 rfl (Nat.le_of_ble_eq_true rfl) dX4_count_92 ⟨Nat.zero_le _, Nat.zero_le _⟩ (fun z12 e12 => ?_)
    have e12 : z12.toInt = hkN σ.1.2.2 (2 : Int) 3 := e12
    exact z_ri (v := z12) hx hb hr hlocks (show z12.toInt = a_count σ w from (by rw [show w = 4 by omega]; exact e12)) dX4_count_95
  · refine lv_tableIn (off := 95) (tgt := 96) hx hb dX4_count_1 (by rw [e_xw]; omega) (by rw [e_xw]; omega) (by rw [e_xw, c_1]; rfl) (by decide) ?_
    refine lv_aload_n hx hb dX4_count_96 rfl (lv_at hl 0 rfl) ?_
    refine z_get hx hb hts iwX4_count_4 hown hK hF.1 rfl 4 (by decide) flX4_count_162 rfl (v := .int σ.2.2.2.2.2.1) rfl dX4_count_97 ?_
    exact z_ri (v := σ.2.2.2.2.2.1) hx hb hr hlocks (show σ.2.2.2.2.2.1.toInt = a_count σ w from (by rw [show w = 5 by omega]; exact rfl)) dX4_count_100
  · refine lv_tableIn (off := 100) (tgt := 101) hx hb dX4_count_1 (by rw [e_xw]; omega) (by rw [e_xw]; omega) (by rw [e_xw, c_1]; rfl) (by decide) ?_
    refine lv_aload_n hx hb dX4_count_101 rfl (lv_at hl 0 rfl) ?_
    have hX13 : TX G s.heap (z + 110) σ.2.2.2.2.2.2 := hF.text
    refine z_get hx hb hts iwX4_count_4 hown hK hF.1 rfl 5 (by decide) flX4_count_26 rfl (v := .ref (z + 110)) rfl dX4_count_102 ?_
    refine z_get hx hb hts iwX4_count_1 hown hK hX13.1 rfl 0 (by decide) flX4_count_117 rfl (v := .int σ.2.2.2.2.2.2.1) rfl dX4_count_105 ?_
    exact z_ri (v := σ.2.2.2.2.2.2.1) hx hb hr hlocks (show σ.2.2.2.2.2.2.1.toInt = a_count σ w from (by rw [show w = 6 by omega]; exact rfl)) dX4_count_108
