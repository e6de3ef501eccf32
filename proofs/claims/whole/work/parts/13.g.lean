abbrev rmX4_station : Room := { frames := 4, cells := 0, slots := 0, locals := 86 }
theorem iwX4_station_0 : ∀ w ∈ wsX00, w ∈ wsX4_station := fun _ h => List.mem_cons_of_mem _ (List.mem_append_right _ h)
theorem iwX4_station_2 : ∀ w ∈ wsX20, w ∈ wsX4_station := fun _ h => List.mem_cons_of_mem _ (List.mem_append_left _ (List.mem_append_right _ h))
theorem iwX4_station_4 : ∀ w ∈ wsX40, w ∈ wsX4_station := fun _ h => List.mem_cons_of_mem _ (List.mem_append_left _ (List.mem_append_left _ (List.mem_append_right _ h)))
theorem flX4_station_10 : Cond.fieldLink RX4 10 "SiltedFloats" "now" "LSiltedFloats$State;" ∈ wsX4_station := by decide +kernel
theorem flX4_station_105 : Cond.fieldLink RX4 105 "SiltedFloats$Gauge" "sunk" "I" ∈ wsX4_station := by decide +kernel
theorem flX4_station_176 : Cond.fieldLink RX4 176 "SiltedFloats$Gauge" "delay" "I" ∈ wsX4_station := by decide +kernel
theorem flX4_station_179 : Cond.fieldLink RX4 179 "SiltedFloats$Gauge" "scale" "I" ∈ wsX4_station := by decide +kernel
theorem flX4_station_182 : Cond.fieldLink RX4 182 "SiltedFloats$Gauge" "offset" "I" ∈ wsX4_station := by decide +kernel
theorem flX4_station_188 : Cond.fieldLink RX4 188 "SiltedFloats$Gauge" "notes" "I" ∈ wsX4_station := by decide +kernel
theorem flX4_station_66 : Cond.fieldLink RX4 66 "SiltedFloats$State" "gauges" "[LSiltedFloats$Gauge;" ∈ wsX4_station := by decide +kernel
theorem flX4_station_78 : Cond.fieldLink RX4 78 "SiltedFloats$Gauge" "floatLevel" "I" ∈ wsX4_station := by decide +kernel
theorem flX4_station_81 : Cond.fieldLink RX4 81 "SiltedFloats$Gauge" "sinking" "I" ∈ wsX4_station := by decide +kernel
theorem flX4_station_84 : Cond.fieldLink RX4 84 "SiltedFloats$Gauge" "silting" "I" ∈ wsX4_station := by decide +kernel
theorem flX4_station_87 : Cond.fieldLink RX4 87 "SiltedFloats$Gauge" "on" "Z" ∈ wsX4_station := by decide +kernel
theorem flX4_station_95 : Cond.fieldLink RX4 95 "SiltedFloats$Gauge" "silt" "I" ∈ wsX4_station := by decide +kernel
theorem flX4_station_c61 : Cond.constant RX4 61 (100000) ∈ wsX4_station := by decide +kernel
theorem hyX4_station : yX4_station.cls = RX4 ∧ yX4_station.cls ≠ "java/lang/invoke/MethodHandle" ∧ yX4_station.cls ≠ "java/lang/invoke/VarHandle" ∧ (parseMethodDescriptor yX4_station.desc).map (fun d => d.parameters.length) = some 2 := by decide +kernel
set_option maxHeartbeats 4000000 in
set_option maxRecDepth 100000 in
theorem kX4_station (l : Launch) (G : xG) (z : Nat) (σ : FD) (xt : Int32) (t : Int) (e_xt : xt.toInt = t) (xw : Int32) (w : Int) (e_xw : xw.toInt = w) (hok : fdOk σ) : Met l yX4_station wsX4_station rmX4_station (va_Pc [.ref z, .int xt, .int xw] (zPre G (fun H => SFP G H z σ))) (zS (fun v => v.toInt = a_station σ t w)) 0 0 zno := by
  refine z_ofW (cc := cX4_station) (maxL := 4) (ret := some .int) (by decide +kernel) rfl (Nat.le_of_ble_eq_true rfl) ?_
  intro p e s m below meth c hx hb hml hr hts hown hlocks hK hP ls hl
  have hF := hP
  have hown : s.vm.findClass RX4 = some m.cls := hown
  have hl : lv_has ls 4 [(0, .ref z), (1, .int xt), (2, .int xw)] := hl
  have hok1 := hok.1
  have hokh := hok1.1
  refine lv_iload_n hx hb dX4_station_0 rfl (lv_at hl 1 rfl) ?_
  refine z_cS (As := [.int xt]) (rest := []) ⟨hx, hb, hml, hown, hts⟩ (kX4_isStation l G xt t e_xt) (va_cwS 1 hts gX4_station_X4_isStation rfl rfl rfl hyX4_isStation ⟨Nat.le_of_ble_eq_true rfl, Nat.le_of_ble_eq_true rfl⟩) hK trivial rfl hl.1 rfl (Nat.le_of_ble_eq_true rfl) dX4_station_1 ⟨Nat.zero_le _, Nat.zero_le _⟩ (fun z1 e1 => ?_)
  have e1 : isB z1 (0 ≤ t ∧ t < 3) := e1
  refine z_ifb_ne (tgt := 9) hx hb e1 dX4_station_4 (by decide) (fun c_2 => ?_) (fun c_2 => ?_)
  · have hgo := hok1.2.2 t.toNat (by omega)
    have hgb := hgo.1
    have hg2 := hgo.2.1
    have hg3 := hgo.2.2.1
    refine lv_aload_n hx hb dX4_station_9 rfl (lv_at hl 0 rfl) ?_
    have hN3 : ST G s.heap (z + 1) σ.1 := hF.now
    refine z_get hx hb hts iwX4_station_4 hown hK hF.1 rfl 0 (by decide) flX4_station_10 rfl (v := .ref (z + 1)) rfl dX4_station_10 ?_
    refine z_get hx hb hts iwX4_station_2 hown hK hN3.1 rfl 2 (by decide) flX4_station_66 rfl (v := .ref ((z + 1) + 5)) rfl dX4_station_13 ?_
    refine lv_iload_n hx hb dX4_station_16 rfl (lv_at hl 1 rfl) ?_
    have hJ4 : GA G s.heap ((z + 1) + 6 + 4 * t.toNat) (σ.1.2.2 t.toNat) := hN3.gauge (i := t.toNat) (by omega)
    refine z_aald (b := (z + 1) + 6 + 4 * t.toNat) hx hb hK 3 hN3.2.2.1 rfl e_xt (by omega) rfl dX4_station_17 ?_
    refine lv_astore_n hx hb dX4_station_18 rfl hl (by decide) rfl (fun ls hl => ?_)
    have hl : lv_has ls 4 [(3, .ref ((z + 1) + 6 + 4 * t.toNat)), (0, .ref z), (1, .int xt), (2, .int xw)] := hl
    refine lv_iload_n hx hb dX4_station_19 rfl (lv_at hl 3 rfl) ?_
    rcases (show w < 0 ∨ 12 < w ∨ w = 0 ∨ w = 1 ∨ w = 2 ∨ w = 3 ∨ w = 4 ∨ w = 5 ∨ w = 6 ∨ w = 7 ∨ w = 8 ∨ w = 9 ∨ w = 10 ∨ w = 11 ∨ w = 12 from by omega) with c_5 | c_5 | c_5 | c_5 | c_5 | c_5 | c_5 | c_5 | c_5 | c_5 | c_5 | c_5 | c_5 | c_5 | c_5
    · refine lv_tableOut (tgt := 169) hx hb dX4_station_20 (by rw [e_xw]; omega) (by decide) ?_
      refine lv_bipush (v := (-2 : Int32)) hx hb dX4_station_169 (by decide) ?_
      exact z_ri (v := (-2 : Int32)) hx hb hr hlocks (show (-2 : Int32).toInt = a_station σ t w from (by unfold a_station; rw [if_neg (by omega), stW_out (by omega)]; rfl)) dX4_station_171
    · refine lv_tableOut (tgt := 169) hx hb dX4_station_20 (by rw [e_xw]; omega) (by decide) ?_
      refine lv_bipush (v := (-2 : Int32)) hx hb dX4_station_169 (by decide) ?_
      exact z_ri (v := (-2 : Int32)) hx hb hr hlocks (show (-2 : Int32).toInt = a_station σ t w from (by unfold a_station; rw [if_neg (by omega), stW_out (by omega)]; rfl)) dX4_station_171
    · refine lv_tableIn (off := 68) (tgt := 88) hx hb dX4_station_20 (by rw [e_xw]; omega) (by rw [e_xw]; omega) (by rw [e_xw, c_5]; rfl) (by decide) ?_
      refine lv_aload_n hx hb dX4_station_88 rfl (lv_at hl 0 rfl) ?_
      refine z_get hx hb hts iwX4_station_0 hown hK hJ4.1 rfl 0 (by decide) flX4_station_176 rfl (v := .int (((σ.1.2.2 t.toNat).1) 0)) rfl dX4_station_89 ?_
      exact z_ri (v := ((σ.1.2.2 t.toNat).1) 0) hx hb hr hlocks (show (((σ.1.2.2 t.toNat).1) 0).toInt = a_station σ t w from (by unfold a_station; rw [if_neg (by omega), show w = 0 by omega]; exact rfl)) dX4_station_92
    · refine lv_tableIn (off := 73) (tgt := 93) hx hb dX4_station_20 (by rw [e_xw]; omega) (by rw [e_xw]; omega) (by rw [e_xw, c_5]; rfl) (by decide) ?_
      refine lv_aload_n hx hb dX4_station_93 rfl (lv_at hl 0 rfl) ?_
      refine z_get hx hb hts iwX4_station_0 hown hK hJ4.1 rfl 1 (by decide) flX4_station_179 rfl (v := .int (((σ.1.2.2 t.toNat).1) 1)) rfl dX4_station_94 ?_
      exact z_ri (v := ((σ.1.2.2 t.toNat).1) 1) hx hb hr hlocks (show (((σ.1.2.2 t.toNat).1) 1).toInt = a_station σ t w from (by unfold a_station; rw [if_neg (by omega), show w = 1 by omega]; exact rfl)) dX4_station_97
    · refine lv_tableIn (off := 78) (tgt := 98) hx hb dX4_station_20 (by rw [e_xw]; omega) (by rw [e_xw]; omega) (by rw [e_xw, c_5]; rfl) (by decide) ?_
      refine lv_aload_n hx hb dX4_station_98 rfl (lv_at hl 0 rfl) ?_
      refine z_get hx hb hts iwX4_station_0 hown hK hJ4.1 rfl 2 (by decide) flX4_station_182 rfl (v := .int (((σ.1.2.2 t.toNat).1) 2)) rfl dX4_station_99 ?_
      refine lv_ldc (v := (100000 : Int32)) hx hb hown (hts _ flX4_station_c61) dX4_station_102 ?_
      refine z_iadd hx hb rfl kI_100000 dX4_station_104 (by omega) (fun z6 e6 => ?_)
      exact z_ri (v := z6) hx hb hr hlocks (show z6.toInt = a_station σ t w from (by unfold a_station; rw [if_neg (by omega), show w = 2 by omega]; exact e6)) dX4_station_105
    · refine lv_tableIn (off := 86) (tgt := 106) hx hb dX4_station_20 (by rw [e_xw]; omega) (by rw [e_xw]; omega) (by rw [e_xw, c_5]; rfl) (by decide) ?_
      refine lv_aload_n hx hb dX4_station_106 rfl (lv_at hl 0 rfl) ?_
      refine z_get hx hb hts iwX4_station_0 hown hK hJ4.1 rfl 3 (by decide) flX4_station_78 rfl (v := .int (((σ.1.2.2 t.toNat).1) 3)) rfl dX4_station_107 ?_
      refine lv_ldc (v := (100000 : Int32)) hx hb hown (hts _ flX4_station_c61) dX4_station_110 ?_
      refine z_iadd hx hb rfl kI_100000 dX4_station_112 (by omega) (fun z7 e7 => ?_)
      exact z_ri (v := z7) hx hb hr hlocks (show z7.toInt = a_station σ t w from (by unfold a_station; rw [if_neg (by omega), show w = 3 by omega]; exact e7)) dX4_station_113
    · refine lv_tableIn (off := 94) (tgt := 114) hx hb dX4_station_20 (by rw [e_xw]; omega) (by rw [e_xw]; omega) (by rw [e_xw, c_5]; rfl) (by decide) ?_
      refine lv_aload_n hx hb dX4_station_114 rfl (lv_at hl 0 rfl) ?_
      refine z_get hx hb hts iwX4_station_0 hown hK hJ4.1 rfl 4 (by decide) flX4_station_95 rfl (v := .int (((σ.1.2.2 t.toNat).1) 4)) rfl dX4_station_115 ?_
      exact z_ri (v := ((σ.1.2.2 t.toNat).1) 4) hx hb hr hlocks (show (((σ.1.2.2 t.toNat).1) 4).toInt = a_station σ t w from (by unfold a_station; rw [if_neg (by omega), show w = 4 by omega]; exact rfl)) dX4_station_118
    · refine lv_tableIn (off := 99) (tgt := 119) hx hb dX4_station_20 (by rw [e_xw]; omega) (by rw [e_xw]; omega) (by rw [e_xw, c_5]; rfl) (by decide) ?_
      refine lv_aload_n hx hb dX4_station_119 rfl (lv_at hl 0 rfl) ?_
      refine z_get hx hb hts iwX4_station_0 hown hK hJ4.1 rfl 5 (by decide) flX4_station_84 rfl (v := .int (((σ.1.2.2 t.toNat).1) 5)) rfl dX4_station_120 ?_
      exact z_ri (v := ((σ.1.2.2 t.toNat).1) 5) hx hb hr hlocks (show (((σ.1.2.2 t.toNat).1) 5).toInt = a_station σ t w from (by unfold a_station; rw [if_neg (by omega), show w = 5 by omega]; exact rfl)) dX4_station_123
    · refine lv_tableIn (off := 104) (tgt := 124) hx hb dX4_station_20 (by rw [e_xw]; omega) (by rw [e_xw]; omega) (by rw [e_xw, c_5]; rfl) (by decide) ?_
      refine lv_aload_n hx hb dX4_station_124 rfl (lv_at hl 0 rfl) ?_
      refine z_get hx hb hts iwX4_station_0 hown hK hJ4.1 rfl 6 (by decide) flX4_station_81 rfl (v := .int (((σ.1.2.2 t.toNat).1) 6)) rfl dX4_station_125 ?_
      exact z_ri (v := ((σ.1.2.2 t.toNat).1) 6) hx hb hr hlocks (show (((σ.1.2.2 t.toNat).1) 6).toInt = a_station σ t w from (by unfold a_station; rw [if_neg (by omega), show w = 6 by omega]; exact rfl)) dX4_station_128
    · refine lv_tableIn (off := 109) (tgt := 129) hx hb dX4_station_20 (by rw [e_xw]; omega) (by rw [e_xw]; omega) (by rw [e_xw, c_5]; rfl) (by decide) ?_
      refine lv_aload_n hx hb dX4_station_129 rfl (lv_at hl 0 rfl) ?_
      refine z_get hx hb hts iwX4_station_0 hown hK hJ4.1 rfl 7 (by decide) flX4_station_105 rfl (v := .int (((σ.1.2.2 t.toNat).1) 7)) rfl dX4_station_130 ?_
      exact z_ri (v := ((σ.1.2.2 t.toNat).1) 7) hx hb hr hlocks (show (((σ.1.2.2 t.toNat).1) 7).toInt = a_station σ t w from (by unfold a_station; rw [if_neg (by omega), show w = 7 by omega]; exact rfl)) dX4_station_133
    · refine lv_tableIn (off := 114) (tgt := 134) hx hb dX4_station_20 (by rw [e_xw]; omega) (by rw [e_xw]; omega) (by rw [e_xw, c_5]; rfl) (by decide) ?_
      refine lv_aload_n hx hb dX4_station_134 rfl (lv_at hl 0 rfl) ?_
      refine z_get hx hb hts iwX4_station_0 hown hK hJ4.1 rfl 8 (by decide) flX4_station_87 rfl (v := .int (((σ.1.2.2 t.toNat).1) 8)) rfl dX4_station_135 ?_
      refine z_if_eq (tgt := 145) hx hb rfl dX4_station_138 (by decide) (fun c_8 => ?_) (fun c_8 => ?_)
      · refine lv_iconst (v := (0 : Int32)) hx hb dX4_station_145 (by decide) ?_
        exact z_ri (v := (0 : Int32)) hx hb hr hlocks (show (0 : Int32).toInt = a_station σ t w from (by unfold a_station; rw [if_neg (by omega), show w = 8 by omega]; exact (if_pos (by omega)).symm)) dX4_station_146
      · refine lv_iconst (v := (1 : Int32)) hx hb dX4_station_141 (by decide) ?_
        refine lv_goto (tgt := 146) hx hb dX4_station_142 (by decide) ?_
        exact z_ri (v := (1 : Int32)) hx hb hr hlocks (show (1 : Int32).toInt = a_station σ t w from (by unfold a_station; rw [if_neg (by omega), show w = 8 by omega]; exact (if_neg (by omega)).symm)) dX4_station_146
    · refine lv_tableIn (off := 127) (tgt := 147) hx hb dX4_station_20 (by rw [e_xw]; omega) (by rw [e_xw]; omega) (by rw [e_xw, c_5]; rfl) (by decide) ?_
      refine lv_aload_n hx hb dX4_station_147 rfl (lv_at hl 0 rfl) ?_
      refine lv_iconst (v := (0 : Int32)) hx hb dX4_station_148 (by decide) ?_
      refine z_cV (As := [.int (0 : Int32)]) (rest := []) ⟨hx, hb, hml, hown, hts⟩ (kX0_hoursOfKind l G ((z + 1) + 6 + 4 * t.toNat) (σ.1.2.2 t.toNat) (0 : Int32) (0 : Int) kI_0) (cwV 1 hts gX4_station_X0_hoursOfKind rfl rfl rfl hyX0_hoursOfKind ⟨Nat.le_of_ble_eq_true rfl, Nat.le_of_ble_eq_true rfl⟩) hK hJ4 hJ4.1 rfl rfl hl.1 rfl (Nat.le_of_ble_eq_true rfl) dX4_station_149 ⟨Nat.zero_le _, Nat.zero_le _⟩ (fun z9 e9 => ?_)
      have e9 : z9.toInt = cntZ (fun j => ((σ.1.2.2 t.toNat).2.1 j).toInt = (0 : Int)) 120 := e9
      exact z_ri (v := z9) hx hb hr hlocks (show z9.toInt = a_station σ t w from (by unfold a_station; rw [if_neg (by omega), show w = 9 by omega]; exact e9)) dX4_station_152
    · refine lv_tableIn (off := 133) (tgt := 153) hx hb dX4_station_20 (by rw [e_xw]; omega) (by rw [e_xw]; omega) (by rw [e_xw, c_5]; rfl) (by decide) ?_
      refine lv_aload_n hx hb dX4_station_153 rfl (lv_at hl 0 rfl) ?_
      refine z_cV (As := []) (rest := []) ⟨hx, hb, hml, hown, hts⟩ (kX0_gaps l G ((z + 1) + 6 + 4 * t.toNat) (σ.1.2.2 t.toNat)) (cwV 0 hts gX4_station_X0_gaps rfl rfl rfl hyX0_gaps ⟨Nat.le_of_ble_eq_true rfl, Nat.le_of_ble_eq_true rfl⟩) hK hJ4 hJ4.1 rfl rfl hl.1 rfl (Nat.le_of_ble_eq_true rfl) dX4_station_154 ⟨Nat.zero_le _, Nat.zero_le _⟩ (fun z10 e10 => ?_)
      have e10 : z10.toInt = cntZ (fun j => sgP (σ.1.2.2 t.toNat) (j : Int)) 120 := e10
      exact z_ri (v := z10) hx hb hr hlocks (show z10.toInt = a_station σ t w from (by unfold a_station; rw [if_neg (by omega), show w = 10 by omega]; exact e10)) dX4_station_157
    · refine lv_tableIn (off := 138) (tgt := 158) hx hb dX4_station_20 (by rw [e_xw]; omega) (by rw [e_xw]; omega) (by rw [e_xw, c_5]; rfl) (by decide) ?_
      refine lv_aload_n hx hb dX4_station_158 rfl (lv_at hl 0 rfl) ?_
      refine lv_iconst (v := (2 : Int32)) hx hb dX4_station_159 (by decide) ?_
      refine z_cV (As := [.int (2 : Int32)]) (rest := []) ⟨hx, hb, hml, hown, hts⟩ (kX0_hoursOfKind l G ((z + 1) + 6 + 4 * t.toNat) (σ.1.2.2 t.toNat) (2 : Int32) (2 : Int) kI_2) (cwV 1 hts gX4_station_X0_hoursOfKind rfl rfl rfl hyX0_hoursOfKind ⟨Nat.le_of_ble_eq_true rfl, Nat.le_of_ble_eq_true rfl⟩) hK hJ4 hJ4.1 rfl rfl hl.1 rfl (Nat.le_of_ble_eq_true rfl) dX4_station_160 ⟨Nat.zero_le _, Nat.zero_le _⟩ (fun z11 e11 => ?_)
      have e11 : z11.toInt = cntZ (fun j => ((σ.1.2.2 t.toNat).2.1 j).toInt = (2 : Int)) 120 := e11
      exact z_ri (v := z11) hx hb hr hlocks (show z11.toInt = a_station σ t w from (by unfold a_station; rw [if_neg (by omega), show w = 11 by omega]; exact e11)) dX4_station_163
    · refine lv_tableIn (off := 144) (tgt := 164) hx hb dX4_station_20 (by rw [e_xw]; omega) (by rw [e_xw]; omega) (by rw [e_xw, c_5]; rfl) (by decide) ?_
      refine lv_aload_n hx hb dX4_station_164 rfl (lv_at hl 0 rfl) ?_
      refine z_get hx hb hts iwX4_station_0 hown hK hJ4.1 rfl 9 (by decide) flX4_station_188 rfl (v := .int (((σ.1.2.2 t.toNat).1) 9)) rfl dX4_station_165 ?_
      exact z_ri (v := ((σ.1.2.2 t.toNat).1) 9) hx hb hr hlocks (show (((σ.1.2.2 t.toNat).1) 9).toInt = a_station σ t w from (by unfold a_station; rw [if_neg (by omega), show w = 12 by omega]; exact rfl)) dX4_station_168
  · refine lv_iconst (v := (-1 : Int32)) hx hb dX4_station_7 (by decide) ?_
    exact z_ri (v := (-1 : Int32)) hx hb hr hlocks (show (-1 : Int32).toInt = a_station σ t w from (by unfold a_station; rw [if_pos (by omega)]; rfl)) dX4_station_8

abbrev rmX4_hour : Room := { frames := 3, cells := 0, slots := 0, locals := 63 }
theorem iwX4_hour_2 : ∀ w ∈ wsX20, w ∈ wsX4_hour := fun _ h => List.mem_cons_of_mem _ (List.mem_append_left _ (List.mem_append_right _ h))
theorem iwX4_hour_4 : ∀ w ∈ wsX40, w ∈ wsX4_hour := fun _ h => List.mem_cons_of_mem _ (List.mem_append_left _ (List.mem_append_left _ (List.mem_append_right _ h)))
theorem flX4_hour_10 : Cond.fieldLink RX4 10 "SiltedFloats" "now" "LSiltedFloats$State;" ∈ wsX4_hour := by decide +kernel
theorem flX4_hour_34 : Cond.fieldLink RX4 34 "SiltedFloats$State" "hour" "I" ∈ wsX4_hour := by decide +kernel
theorem flX4_hour_66 : Cond.fieldLink RX4 66 "SiltedFloats$State" "gauges" "[LSiltedFloats$Gauge;" ∈ wsX4_hour := by decide +kernel
theorem flX4_hour_c61 : Cond.constant RX4 61 (100000) ∈ wsX4_hour := by decide +kernel
theorem hyX4_hour : yX4_hour.cls = RX4 ∧ yX4_hour.cls ≠ "java/lang/invoke/MethodHandle" ∧ yX4_hour.cls ≠ "java/lang/invoke/VarHandle" ∧ (parseMethodDescriptor yX4_hour.desc).map (fun d => d.parameters.length) = some 3 := by decide +kernel
set_option maxHeartbeats 4000000 in
set_option maxRecDepth 100000 in
theorem kX4_hour (l : Launch) (G : xG) (z : Nat) (σ : FD) (xt : Int32) (t : Int) (e_xt : xt.toInt = t) (xh : Int32) (h : Int) (e_xh : xh.toInt = h) (xw : Int32) (w : Int) (e_xw : xw.toInt = w) (hok : fdOk σ) : Met l yX4_hour wsX4_hour rmX4_hour (va_Pc [.ref z, .int xt, .int xh, .int xw] (zPre G (fun H => SFP G H z σ))) (zS (fun v => v.toInt = a_hour σ t h w)) 0 0 zno := by
  refine z_ofW (cc := cX4_hour) (maxL := 6) (ret := some .int) (by decide +kernel) rfl (Nat.le_of_ble_eq_true rfl) ?_
  intro p e s m below meth c hx hb hml hr hts hown hlocks hK hP ls hl
  have hF := hP
  have hown : s.vm.findClass RX4 = some m.cls := hown
  have hl : lv_has ls 6 [(0, .ref z), (1, .int xt), (2, .int xh), (3, .int xw)] := hl
  have hok1 := hok.1
  have hokh := hok1.1
  refine lv_iload_n hx hb dX4_hour_0 rfl (lv_at hl 1 rfl) ?_
  refine z_cS (As := [.int xt]) (rest := []) ⟨hx, hb, hml, hown, hts⟩ (kX4_isStation l G xt t e_xt) (va_cwS 1 hts gX4_hour_X4_isStation rfl rfl rfl hyX4_isStation ⟨Nat.le_of_ble_eq_true rfl, Nat.le_of_ble_eq_true rfl⟩) hK trivial rfl hl.1 rfl (Nat.le_of_ble_eq_true rfl) dX4_hour_1 ⟨Nat.zero_le _, Nat.zero_le _⟩ (fun z1 e1 => ?_)
  have e1 : isB z1 (0 ≤ t ∧ t < 3) := e1
  refine z_ifb_ne (tgt := 9) hx hb e1 dX4_hour_4 (by decide) (fun c_2 => ?_) (fun c_2 => ?_)
  · have hgo := hok1.2.2 t.toNat (by omega)
    have hgb := hgo.1
    have hg2 := hgo.2.1
    have hg3 := hgo.2.2.1
    have hsm := hgo.small
    have hq1 := hsm.read h
    have hq2 := hsm.cord h
    have hq3 := hsm.val h
    refine lv_iload_n hx hb dX4_hour_9 rfl (lv_at hl 2 rfl) ?_
    refine z_if_lt (tgt := 22) hx hb e_xh dX4_hour_10 (by decide) (fun c_3 => ?_) (fun c_3 => ?_)
    · refine lv_bipush (v := (-2 : Int32)) hx hb dX4_hour_22 (by decide) ?_
      exact z_ri (v := (-2 : Int32)) hx hb hr hlocks (show (-2 : Int32).toInt = a_hour σ t h w from (by unfold a_hour hrW; (repeat' split) <;> first | rfl | omega | contradiction | assumption)) dX4_hour_24
    · refine lv_iload_n hx hb dX4_hour_13 rfl (lv_at hl 3 rfl) ?_
      refine lv_iconst (v := (0 : Int32)) hx hb dX4_hour_14 (by decide) ?_
      refine lv_iconst (v := (4 : Int32)) hx hb dX4_hour_15 (by decide) ?_
      refine z_cS (As := [.int xw, .int (0 : Int32), .int (4 : Int32)]) (rest := []) ⟨hx, hb, hml, hown, hts⟩ (kX4_isWithin l G xw w e_xw (0 : Int32) (0 : Int) kI_0 (4 : Int32) (4 : Int) kI_4) (va_cwS 3 hts gX4_hour_X4_isWithin rfl rfl rfl hyX4_isWithin ⟨Nat.le_of_ble_eq_true rfl, Nat.le_of_ble_eq_true rfl⟩) hK trivial rfl hl.1 rfl (Nat.le_of_ble_eq_true rfl) dX4_hour_16 ⟨Nat.zero_le _, Nat.zero_le _⟩ (fun z4 e4 => ?_)
      have e4 : isB z4 ((0 : Int) ≤ w ∧ w ≤ (4 : Int)) := e4
      refine z_ifb_ne (tgt := 25) hx hb e4 dX4_hour_19 (by decide) (fun c_5 => ?_) (fun c_5 => ?_)
      · refine lv_iload_n hx hb dX4_hour_25 rfl (lv_at hl 2 rfl) ?_
        refine lv_aload_n hx hb dX4_hour_26 rfl (lv_at hl 0 rfl) ?_
        have hN6 : ST G s.heap (z + 1) σ.1 := hF.now
        refine z_get hx hb hts iwX4_hour_4 hown hK hF.1 rfl 0 (by decide) flX4_hour_10 rfl (v := .ref (z + 1)) rfl dX4_hour_27 ?_
        refine z_get hx hb hts iwX4_hour_2 hown hK hN6.1 rfl 0 (by decide) flX4_hour_34 rfl (v := .int σ.1.1) rfl dX4_hour_30 ?_
        refine z_icmp_lt (tgt := 39) hx hb e_xh rfl dX4_hour_33 (by decide) (fun c_7 => ?_) (fun c_7 => ?_)
        · refine lv_aload_n hx hb dX4_hour_39 rfl (lv_at hl 0 rfl) ?_
          refine z_get hx hb hts iwX4_hour_4 hown hK hF.1 rfl 0 (by decide) flX4_hour_10 rfl (v := .ref (z + 1)) rfl dX4_hour_40 ?_
          refine z_get hx hb hts iwX4_hour_2 hown hK hN6.1 rfl 2 (by decide) flX4_hour_66 rfl (v := .ref ((z + 1) + 5)) rfl dX4_hour_43 ?_
          refine lv_iload_n hx hb dX4_hour_46 rfl (lv_at hl 1 rfl) ?_
          have hJ8 : GA G s.heap ((z + 1) + 6 + 4 * t.toNat) (σ.1.2.2 t.toNat) := hN6.gauge (i := t.toNat) (by omega)
          refine z_aald (b := (z + 1) + 6 + 4 * t.toNat) hx hb hK 3 hN6.2.2.1 rfl e_xt (by omega) rfl dX4_hour_47 ?_
          refine lv_astore hx hb dX4_hour_48 hl (by decide) rfl (fun ls hl => ?_)
          have hl : lv_has ls 6 [(4, .ref ((z + 1) + 6 + 4 * t.toNat)), (0, .ref z), (1, .int xt), (2, .int xh), (3, .int xw)] := hl
          refine lv_aload hx hb dX4_hour_50 (lv_at hl 0 rfl) ?_
          refine lv_iload_n hx hb dX4_hour_52 rfl (lv_at hl 3 rfl) ?_
          refine z_cV (As := [.int xh]) (rest := []) ⟨hx, hb, hml, hown, hts⟩ (kX0_kindAt l G ((z + 1) + 6 + 4 * t.toNat) (σ.1.2.2 t.toNat) xh h e_xh) (cwV 1 hts gX4_hour_X0_kindAt rfl rfl rfl hyX0_kindAt ⟨Nat.le_of_ble_eq_true rfl, Nat.le_of_ble_eq_true rfl⟩) hK hJ8 hJ8.1 rfl rfl hl.1 rfl (Nat.le_of_ble_eq_true rfl) dX4_hour_53 ⟨Nat.zero_le _, Nat.zero_le _⟩ (fun z9 e9 => ?_)
          have e9 : z9.toInt = kindZ (σ.1.2.2 t.toNat) h := e9
          refine lv_istore hx hb dX4_hour_56 hl (by decide) rfl (fun ls hl => ?_)
          have hl : lv_has ls 6 [(5, .int z9), (4, .ref ((z + 1) + 6 + 4 * t.toNat)), (0, .ref z), (1, .int xt), (2, .int xh), (3, .int xw)] := hl
          refine lv_iload_n hx hb dX4_hour_58 rfl (lv_at hl 5 rfl) ?_
          rcases (show w < 0 ∨ 3 < w ∨ w = 0 ∨ w = 1 ∨ w = 2 ∨ w = 3 from by omega) with c_10 | c_10 | c_10 | c_10 | c_10 | c_10
          · refine lv_tableOut (tgt := 156) hx hb dX4_hour_59 (by rw [e_xw]; omega) (by decide) ?_
            refine lv_iload hx hb dX4_hour_156 (lv_at hl 0 rfl) ?_
            exact z_ri (v := z9) hx hb hr hlocks (show z9.toInt = a_hour σ t h w from (by unfold a_hour hrW; (repeat' split) <;> first | rfl | omega | contradiction | assumption)) dX4_hour_158
          · refine lv_tableOut (tgt := 156) hx hb dX4_hour_59 (by rw [e_xw]; omega) (by decide) ?_
            refine lv_iload hx hb dX4_hour_156 (lv_at hl 0 rfl) ?_
            exact z_ri (v := z9) hx hb hr hlocks (show z9.toInt = a_hour σ t h w from (by unfold a_hour hrW; (repeat' split) <;> first | rfl | omega | contradiction | assumption)) dX4_hour_158
          · refine lv_tableIn (off := 29) (tgt := 88) hx hb dX4_hour_59 (by rw [e_xw]; omega) (by rw [e_xw]; omega) (by rw [e_xw, c_10]; rfl) (by decide) ?_
            refine lv_iload hx hb dX4_hour_88 (lv_at hl 0 rfl) ?_
            refine z_if_ne (tgt := 105) hx hb e9 dX4_hour_90 (by decide) (fun c_11 => ?_) (fun c_11 => ?_)
            · refine lv_bipush (v := (-5 : Int32)) hx hb dX4_hour_105 (by decide) ?_
              exact z_ri (v := (-5 : Int32)) hx hb hr hlocks (show (-5 : Int32).toInt = a_hour σ t h w from (by unfold a_hour hrW; (repeat' split) <;> first | rfl | omega | contradiction | assumption)) dX4_hour_107
            · refine lv_aload hx hb dX4_hour_93 (lv_at hl 1 rfl) ?_
              refine lv_iload_n hx hb dX4_hour_95 rfl (lv_at hl 4 rfl) ?_
              refine z_cV (As := [.int xh]) (rest := []) ⟨hx, hb, hml, hown, hts⟩ (kX0_readingAt l G ((z + 1) + 6 + 4 * t.toNat) (σ.1.2.2 t.toNat) xh h e_xh) (cwV 1 hts gX4_hour_X0_readingAt rfl rfl rfl hyX0_readingAt ⟨Nat.le_of_ble_eq_true rfl, Nat.le_of_ble_eq_true rfl⟩) hK hJ8 hJ8.1 rfl rfl hl.1 rfl (Nat.le_of_ble_eq_true rfl) dX4_hour_96 ⟨Nat.zero_le _, Nat.zero_le _⟩ (fun z12 e12 => ?_)
              have e12 : z12.toInt = readZ (σ.1.2.2 t.toNat) h := e12
              refine lv_ldc (v := (100000 : Int32)) hx hb hown (hts _ flX4_hour_c61) dX4_hour_99 ?_
              refine z_iadd hx hb e12 kI_100000 dX4_hour_101 (by omega) (fun z13 e13 => ?_)
              refine lv_goto (tgt := 107) hx hb dX4_hour_102 (by decide) ?_
              exact z_ri (v := z13) hx hb hr hlocks (show z13.toInt = a_hour σ t h w from (by unfold a_hour hrW; (repeat' split) <;> first | rfl | omega | contradiction | assumption)) dX4_hour_107
          · refine lv_tableIn (off := 49) (tgt := 108) hx hb dX4_hour_59 (by rw [e_xw]; omega) (by rw [e_xw]; omega) (by rw [e_xw, c_10]; rfl) (by decide) ?_
            refine lv_iload hx hb dX4_hour_108 (lv_at hl 0 rfl) ?_
            refine z_if_ne (tgt := 125) hx hb e9 dX4_hour_110 (by decide) (fun c_14 => ?_) (fun c_14 => ?_)
            · refine lv_bipush (v := (-5 : Int32)) hx hb dX4_hour_125 (by decide) ?_
              exact z_ri (v := (-5 : Int32)) hx hb hr hlocks (show (-5 : Int32).toInt = a_hour σ t h w from (by unfold a_hour hrW; (repeat' split) <;> first | rfl | omega | contradiction | assumption)) dX4_hour_127
            · refine lv_aload hx hb dX4_hour_113 (lv_at hl 1 rfl) ?_
              refine lv_iload_n hx hb dX4_hour_115 rfl (lv_at hl 4 rfl) ?_
              refine z_cV (As := [.int xh]) (rest := []) ⟨hx, hb, hml, hown, hts⟩ (kX0_correctedAt l G ((z + 1) + 6 + 4 * t.toNat) (σ.1.2.2 t.toNat) xh h e_xh hsm) (cwV 1 hts gX4_hour_X0_correctedAt rfl rfl rfl hyX0_correctedAt ⟨Nat.le_of_ble_eq_true rfl, Nat.le_of_ble_eq_true rfl⟩) hK hJ8 hJ8.1 rfl rfl hl.1 rfl (Nat.le_of_ble_eq_true rfl) dX4_hour_116 ⟨Nat.zero_le _, Nat.zero_le _⟩ (fun z15 e15 => ?_)
              have e15 : z15.toInt = cordZ (σ.1.2.2 t.toNat) h := e15
              refine lv_ldc (v := (100000 : Int32)) hx hb hown (hts _ flX4_hour_c61) dX4_hour_119 ?_
              refine z_iadd hx hb e15 kI_100000 dX4_hour_121 (by omega) (fun z16 e16 => ?_)
              refine lv_goto (tgt := 127) hx hb dX4_hour_122 (by decide) ?_
              exact z_ri (v := z16) hx hb hr hlocks (show z16.toInt = a_hour σ t h w from (by unfold a_hour hrW; (repeat' split) <;> first | rfl | omega | contradiction | assumption)) dX4_hour_127
          · refine lv_tableIn (off := 69) (tgt := 128) hx hb dX4_hour_59 (by rw [e_xw]; omega) (by rw [e_xw]; omega) (by rw [e_xw, c_10]; rfl) (by decide) ?_
            refine lv_iload hx hb dX4_hour_128 (lv_at hl 0 rfl) ?_
            refine lv_iconst (v := (2 : Int32)) hx hb dX4_hour_130 (by decide) ?_
            refine z_icmp_ne (tgt := 146) hx hb e9 kI_2 dX4_hour_131 (by decide) (fun c_17 => ?_) (fun c_17 => ?_)
            · refine lv_bipush (v := (-5 : Int32)) hx hb dX4_hour_146 (by decide) ?_
              exact z_ri (v := (-5 : Int32)) hx hb hr hlocks (show (-5 : Int32).toInt = a_hour σ t h w from (by unfold a_hour hrW; (repeat' split) <;> first | rfl | omega | contradiction | assumption)) dX4_hour_148
            · refine lv_aload hx hb dX4_hour_134 (lv_at hl 1 rfl) ?_
              refine lv_iload_n hx hb dX4_hour_136 rfl (lv_at hl 4 rfl) ?_
              refine z_cV (As := [.int xh]) (rest := []) ⟨hx, hb, hml, hown, hts⟩ (kX0_valueAt l G ((z + 1) + 6 + 4 * t.toNat) (σ.1.2.2 t.toNat) xh h e_xh hsm) (cwV 1 hts gX4_hour_X0_valueAt rfl rfl rfl hyX0_valueAt ⟨Nat.le_of_ble_eq_true rfl, Nat.le_of_ble_eq_true rfl⟩) hK hJ8 hJ8.1 rfl rfl hl.1 rfl (Nat.le_of_ble_eq_true rfl) dX4_hour_137 ⟨Nat.zero_le _, Nat.zero_le _⟩ (fun z18 e18 => ?_)
              have e18 : z18.toInt = valZ (σ.1.2.2 t.toNat) h := e18
              refine lv_ldc (v := (100000 : Int32)) hx hb hown (hts _ flX4_hour_c61) dX4_hour_140 ?_
              refine z_iadd hx hb e18 kI_100000 dX4_hour_142 (by omega) (fun z19 e19 => ?_)
              refine lv_goto (tgt := 148) hx hb dX4_hour_143 (by decide) ?_
              exact z_ri (v := z19) hx hb hr hlocks (show z19.toInt = a_hour σ t h w from (by unfold a_hour hrW; (repeat' split) <;> first | rfl | omega | contradiction | assumption)) dX4_hour_148
          · refine lv_tableIn (off := 90) (tgt := 149) hx hb dX4_hour_59 (by rw [e_xw]; omega) (by rw [e_xw]; omega) (by rw [e_xw, c_10]; rfl) (by decide) ?_
            refine lv_aload hx hb dX4_hour_149 (lv_at hl 1 rfl) ?_
            refine lv_iload_n hx hb dX4_hour_151 rfl (lv_at hl 4 rfl) ?_
            refine z_cV (As := [.int xh]) (rest := []) ⟨hx, hb, hml, hown, hts⟩ (kX0_correctionAt l G ((z + 1) + 6 + 4 * t.toNat) (σ.1.2.2 t.toNat) xh h e_xh) (cwV 1 hts gX4_hour_X0_correctionAt rfl rfl rfl hyX0_correctionAt ⟨Nat.le_of_ble_eq_true rfl, Nat.le_of_ble_eq_true rfl⟩) hK hJ8 hJ8.1 rfl rfl hl.1 rfl (Nat.le_of_ble_eq_true rfl) dX4_hour_152 ⟨Nat.zero_le _, Nat.zero_le _⟩ (fun z20 e20 => ?_)
            have e20 : z20.toInt = corrZ (σ.1.2.2 t.toNat) h := e20
            exact z_ri (v := z20) hx hb hr hlocks (show z20.toInt = a_hour σ t h w from (by unfold a_hour hrW; (repeat' split) <;> first | rfl | omega | contradiction | assumption)) dX4_hour_155
        · refine lv_bipush (v := (-5 : Int32)) hx hb dX4_hour_36 (by decide) ?_
          exact z_ri (v := (-5 : Int32)) hx hb hr hlocks (show (-5 : Int32).toInt = a_hour σ t h w from (by unfold a_hour hrW; (repeat' split) <;> first | rfl | omega | contradiction | assumption)) dX4_hour_38
      · refine lv_bipush (v := (-2 : Int32)) hx hb dX4_hour_22 (by decide) ?_
        exact z_ri (v := (-2 : Int32)) hx hb hr hlocks (show (-2 : Int32).toInt = a_hour σ t h w from (by unfold a_hour hrW; (repeat' split) <;> first | rfl | omega | contradiction | assumption)) dX4_hour_24
  · refine lv_iconst (v := (-1 : Int32)) hx hb dX4_hour_7 (by decide) ?_
    exact z_ri (v := (-1 : Int32)) hx hb hr hlocks (show (-1 : Int32).toInt = a_hour σ t h w from (by unfold a_hour hrW; (repeat' split) <;> first | rfl | omega | contradiction | assumption)) dX4_hour_8

abbrev rmX4_gap : Room := { frames := 5, cells := 0, slots := 0, locals := 109 }
theorem iwX4_gap_2 : ∀ w ∈ wsX20, w ∈ wsX4_gap := fun _ h => List.mem_cons_of_mem _ (List.mem_append_left _ (List.mem_append_right _ h))
theorem iwX4_gap_4 : ∀ w ∈ wsX40, w ∈ wsX4_gap := fun _ h => List.mem_cons_of_mem _ (List.mem_append_left _ (List.mem_append_left _ (List.mem_append_right _ h)))
theorem flX4_gap_10 : Cond.fieldLink RX4 10 "SiltedFloats" "now" "LSiltedFloats$State;" ∈ wsX4_gap := by decide +kernel
theorem flX4_gap_66 : Cond.fieldLink RX4 66 "SiltedFloats$State" "gauges" "[LSiltedFloats$Gauge;" ∈ wsX4_gap := by decide +kernel
theorem hyX4_gap : yX4_gap.cls = RX4 ∧ yX4_gap.cls ≠ "java/lang/invoke/MethodHandle" ∧ yX4_gap.cls ≠ "java/lang/invoke/VarHandle" ∧ (parseMethodDescriptor yX4_gap.desc).map (fun d => d.parameters.length) = some 3 := by decide +kernel
set_option maxHeartbeats 4000000 in
set_option maxRecDepth 100000 in
theorem kX4_gap (l : Launch) (G : xG) (z : Nat) (σ : FD) (xt : Int32) (t : Int) (e_xt : xt.toInt = t) (xk : Int32) (k : Int) (e_xk : xk.toInt = k) (xw : Int32) (w : Int) (e_xw : xw.toInt = w) (hok : fdOk σ) : Met l yX4_gap wsX4_gap rmX4_gap (va_Pc [.ref z, .int xt, .int xk, .int xw] (zPre G (fun H => SFP G H z σ))) (zS (fun v => v.toInt = a_gap σ t k w)) 0 0 zno := by
  refine z_ofW (cc := cX4_gap) (maxL := 7) (ret := some .int) (by decide +kernel) rfl (Nat.le_of_ble_eq_true rfl) ?_
  intro p e s m below meth c hx hb hml hr hts hown hlocks hK hP ls hl
  have hF := hP
  have hown : s.vm.findClass RX4 = some m.cls := hown
  have hl : lv_has ls 7 [(0, .ref z), (1, .int xt), (2, .int xk), (3, .int xw)] := hl
  have hok1 := hok.1
  have hokh := hok1.1
  refine lv_iload_n hx hb dX4_gap_0 rfl (lv_at hl 1 rfl) ?_
  refine z_cS (As := [.int xt]) (rest := []) ⟨hx, hb, hml, hown, hts⟩ (kX4_isStation l G xt t e_xt) (va_cwS 1 hts gX4_gap_X4_isStation rfl rfl rfl hyX4_isStation ⟨Nat.le_of_ble_eq_true rfl, Nat.le_of_ble_eq_true rfl⟩) hK trivial rfl hl.1 rfl (Nat.le_of_ble_eq_true rfl) dX4_gap_1 ⟨Nat.zero_le _, Nat.zero_le _⟩ (fun z1 e1 => ?_)
  have e1 : isB z1 (0 ≤ t ∧ t < 3) := e1
  refine z_ifb_eq (tgt := 23) hx hb e1 dX4_gap_4 (by decide) (fun c_2 => ?_) (fun c_2 => ?_)
  · refine lv_iconst (v := (-1 : Int32)) hx hb dX4_gap_23 (by decide) ?_
    exact z_ri (v := (-1 : Int32)) hx hb hr hlocks (show (-1 : Int32).toInt = a_gap σ t k w from (by unfold a_gap gpW; (repeat' split) <;> first | rfl | omega | contradiction | assumption)) dX4_gap_24
  · have hgo := hok1.2.2 t.toNat (by omega)
    have hgb := hgo.1
    have hg2 := hgo.2.1
    have hg3 := hgo.2.2.1
    refine lv_aload_n hx hb dX4_gap_7 rfl (lv_at hl 0 rfl) ?_
    have hN3 : ST G s.heap (z + 1) σ.1 := hF.now
    refine z_get hx hb hts iwX4_gap_4 hown hK hF.1 rfl 0 (by decide) flX4_gap_10 rfl (v := .ref (z + 1)) rfl dX4_gap_8 ?_
    refine z_get hx hb hts iwX4_gap_2 hown hK hN3.1 rfl 2 (by decide) flX4_gap_66 rfl (v := .ref ((z + 1) + 5)) rfl dX4_gap_11 ?_
    refine lv_iload_n hx hb dX4_gap_14 rfl (lv_at hl 1 rfl) ?_
    have hJ4 : GA G s.heap ((z + 1) + 6 + 4 * t.toNat) (σ.1.2.2 t.toNat) := hN3.gauge (i := t.toNat) (by omega)
    refine z_aald (b := (z + 1) + 6 + 4 * t.toNat) hx hb hK 3 hN3.2.2.1 rfl e_xt (by omega) rfl dX4_gap_15 ?_
    refine lv_iload_n hx hb dX4_gap_16 rfl (lv_at hl 2 rfl) ?_
    refine z_cV (As := [.int xk]) (rest := []) ⟨hx, hb, hml, hown, hts⟩ (kX0_hasGap l G ((z + 1) + 6 + 4 * t.toNat) (σ.1.2.2 t.toNat) xk k e_xk) (cwV 1 hts gX4_gap_X0_hasGap rfl rfl rfl hyX0_hasGap ⟨Nat.le_of_ble_eq_true rfl, Nat.le_of_ble_eq_true rfl⟩) hK hJ4 hJ4.1 rfl rfl hl.1 rfl (Nat.le_of_ble_eq_true rfl) dX4_gap_17 ⟨Nat.zero_le _, Nat.zero_le _⟩ (fun z5 e5 => ?_)
    have e5 : isB z5 (fgZ (σ.1.2.2 t.toNat) k ≠ -1) := e5
    refine z_ifb_ne (tgt := 25) hx hb e5 dX4_gap_20 (by decide) (fun c_6 => ?_) (fun c_6 => ?_)
    · have hfb := fgZ_b (σ.1.2.2 t.toNat) k
      have hhb := hbZ_b (σ.1.2.2 t.toNat) (show fgZ (σ.1.2.2 t.toNat) k ≤ 120 by omega)
      refine lv_aload_n hx hb dX4_gap_25 rfl (lv_at hl 0 rfl) ?_
      refine z_get hx hb hts iwX4_gap_4 hown hK hF.1 rfl 0 (by decide) flX4_gap_10 rfl (v := .ref (z + 1)) rfl dX4_gap_26 ?_
      refine z_get hx hb hts iwX4_gap_2 hown hK hN3.1 rfl 2 (by decide) flX4_gap_66 rfl (v := .ref ((z + 1) + 5)) rfl dX4_gap_29 ?_
      refine lv_iload_n hx hb dX4_gap_32 rfl (lv_at hl 1 rfl) ?_
      refine z_aald (b := (z + 1) + 6 + 4 * t.toNat) hx hb hK 3 hN3.2.2.1 rfl e_xt (by omega) rfl dX4_gap_33 ?_
      refine lv_astore hx hb dX4_gap_34 hl (by decide) rfl (fun ls hl => ?_)
      have hl : lv_has ls 7 [(4, .ref ((z + 1) + 6 + 4 * t.toNat)), (0, .ref z), (1, .int xt), (2, .int xk), (3, .int xw)] := hl
      refine lv_aload hx hb dX4_gap_36 (lv_at hl 0 rfl) ?_
      refine lv_iload_n hx hb dX4_gap_38 rfl (lv_at hl 3 rfl) ?_
      refine z_cV (As := [.int xk]) (rest := []) ⟨hx, hb, hml, hown, hts⟩ (kX0_firstHourOfGap l G ((z + 1) + 6 + 4 * t.toNat) (σ.1.2.2 t.toNat) xk k e_xk) (cwV 1 hts gX4_gap_X0_firstHourOfGap rfl rfl rfl hyX0_firstHourOfGap ⟨Nat.le_of_ble_eq_true rfl, Nat.le_of_ble_eq_true rfl⟩) hK hJ4 hJ4.1 rfl rfl hl.1 rfl (Nat.le_of_ble_eq_true rfl) dX4_gap_39 ⟨Nat.zero_le _, Nat.zero_le _⟩ (fun z7 e7 => ?_)
      have e7 : z7.toInt = fgZ (σ.1.2.2 t.toNat) k := e7
      refine lv_istore hx hb dX4_gap_42 hl (by decide) rfl (fun ls hl => ?_)
      have hl : lv_has ls 7 [(5, .int z7), (4, .ref ((z + 1) + 6 + 4 * t.toNat)), (0, .ref z), (1, .int xt), (2, .int xk), (3, .int xw)] := hl
      refine lv_aload hx hb dX4_gap_44 (lv_at hl 1 rfl) ?_
      refine lv_iload hx hb dX4_gap_46 (lv_at hl 0 rfl) ?_
      refine z_cV (As := [.int z7]) (rest := []) ⟨hx, hb, hml, hown, hts⟩ (kX0_hourBehindGapFrom l G ((z + 1) + 6 + 4 * t.toNat) (σ.1.2.2 t.toNat) z7 (fgZ (σ.1.2.2 t.toNat) k) e7 (by first | assumption | omega)) (cwV 1 hts gX4_gap_X0_hourBehindGapFrom rfl rfl rfl hyX0_hourBehindGapFrom ⟨Nat.le_of_ble_eq_true rfl, Nat.le_of_ble_eq_true rfl⟩) hK hJ4 hJ4.1 rfl rfl hl.1 rfl (Nat.le_of_ble_eq_true rfl) dX4_gap_48 ⟨Nat.zero_le _, Nat.zero_le _⟩ (fun z8 e8 => ?_)
      have e8 : z8.toInt = hbZ (σ.1.2.2 t.toNat) (fgZ (σ.1.2.2 t.toNat) k) := e8
      refine lv_iconst (v := (1 : Int32)) hx hb dX4_gap_51 (by decide) ?_
      refine z_isub hx hb e8 kI_1 dX4_gap_52 (by omega) (fun z9 e9 => ?_)
      refine lv_istore hx hb dX4_gap_53 hl (by decide) rfl (fun ls hl => ?_)
      have hl : lv_has ls 7 [(6, .int z9), (5, .int z7), (4, .ref ((z + 1) + 6 + 4 * t.toNat)), (0, .ref z), (1, .int xt), (2, .int xk), (3, .int xw)] := hl
      refine lv_iload_n hx hb dX4_gap_55 rfl (lv_at hl 6 rfl) ?_
      rcases (show w < 0 ∨ 3 < w ∨ w = 0 ∨ w = 1 ∨ w = 2 ∨ w = 3 from by omega) with c_10 | c_10 | c_10 | c_10 | c_10 | c_10
      · refine lv_tableOut (tgt := 119) hx hb dX4_gap_56 (by rw [e_xw]; omega) (by decide) ?_
        refine lv_bipush (v := (-2 : Int32)) hx hb dX4_gap_119 (by decide) ?_
        exact z_ri (v := (-2 : Int32)) hx hb hr hlocks (show (-2 : Int32).toInt = a_gap σ t k w from (by unfold a_gap gpW; (repeat' split) <;> first | rfl | omega | contradiction | assumption)) dX4_gap_121
      · refine lv_tableOut (tgt := 119) hx hb dX4_gap_56 (by rw [e_xw]; omega) (by decide) ?_
        refine lv_bipush (v := (-2 : Int32)) hx hb dX4_gap_119 (by decide) ?_
        exact z_ri (v := (-2 : Int32)) hx hb hr hlocks (show (-2 : Int32).toInt = a_gap σ t k w from (by unfold a_gap gpW; (repeat' split) <;> first | rfl | omega | contradiction | assumption)) dX4_gap_121
      · refine lv_tableIn (off := 32) (tgt := 88) hx hb dX4_gap_56 (by rw [e_xw]; omega) (by rw [e_xw]; omega) (by rw [e_xw, c_10]; rfl) (by decide) ?_
        refine lv_iload hx hb dX4_gap_88 (lv_at hl 1 rfl) ?_
        exact z_ri (v := z7) hx hb hr hlocks (show z7.toInt = a_gap σ t k w from (by unfold a_gap gpW; (repeat' split) <;> first | rfl | omega | contradiction | assumption)) dX4_gap_90
      · refine lv_tableIn (off := 35) (tgt := 91) hx hb dX4_gap_56 (by rw [e_xw]; omega) (by rw [e_xw]; omega) (by rw [e_xw, c_10]; rfl) (by decide) ?_
        refine lv_iload hx hb dX4_gap_91 (lv_at hl 0 rfl) ?_
        exact z_ri (v := z9) hx hb hr hlocks (show z9.toInt = a_gap σ t k w from (by unfold a_gap gpW; (repeat' split) <;> first | rfl | omega | contradiction | assumption)) dX4_gap_93
      · refine lv_tableIn (off := 38) (tgt := 94) hx hb dX4_gap_56 (by rw [e_xw]; omega) (by rw [e_xw]; omega) (by rw [e_xw, c_10]; rfl) (by decide) ?_
        refine lv_aload hx hb dX4_gap_94 (lv_at hl 2 rfl) ?_
        refine lv_iload_n hx hb dX4_gap_96 rfl (lv_at hl 5 rfl) ?_
        refine z_cV (As := [.int xk]) (rest := []) ⟨hx, hb, hml, hown, hts⟩ (kX0_isInner l G ((z + 1) + 6 + 4 * t.toNat) (σ.1.2.2 t.toNat) xk k e_xk) (cwV 1 hts gX4_gap_X0_isInner rfl rfl rfl hyX0_isInner ⟨Nat.le_of_ble_eq_true rfl, Nat.le_of_ble_eq_true rfl⟩) hK hJ4 hJ4.1 rfl rfl hl.1 rfl (Nat.le_of_ble_eq_true rfl) dX4_gap_97 ⟨Nat.zero_le _, Nat.zero_le _⟩ (fun z11 e11 => ?_)
        have e11 : isB z11 (kindZ (σ.1.2.2 t.toNat) (fgZ (σ.1.2.2 t.toNat) k - 1) = 0 ∧ kindZ (σ.1.2.2 t.toNat) (hbZ (σ.1.2.2 t.toNat) (fgZ (σ.1.2.2 t.toNat) k)) = 0) := e11
        refine z_ifb_eq (tgt := 107) hx hb e11 dX4_gap_100 (by decide) (fun c_12 => ?_) (fun c_12 => ?_)
        · refine lv_iconst (v := (0 : Int32)) hx hb dX4_gap_107 (by decide) ?_
          exact z_ri (v := (0 : Int32)) hx hb hr hlocks (show (0 : Int32).toInt = a_gap σ t k w from (by unfold a_gap gpW; (repeat' split) <;> first | rfl | omega | contradiction | assumption)) dX4_gap_108
        · refine lv_iconst (v := (1 : Int32)) hx hb dX4_gap_103 (by decide) ?_
          refine lv_goto (tgt := 108) hx hb dX4_gap_104 (by decide) ?_
          exact z_ri (v := (1 : Int32)) hx hb hr hlocks (show (1 : Int32).toInt = a_gap σ t k w from (by unfold a_gap gpW; (repeat' split) <;> first | rfl | omega | contradiction | assumption)) dX4_gap_108
      · refine lv_tableIn (off := 53) (tgt := 109) hx hb dX4_gap_56 (by rw [e_xw]; omega) (by rw [e_xw]; omega) (by rw [e_xw, c_10]; rfl) (by decide) ?_
        refine lv_aload hx hb dX4_gap_109 (lv_at hl 2 rfl) ?_
        refine lv_iload hx hb dX4_gap_111 (lv_at hl 1 rfl) ?_
        refine lv_iload hx hb dX4_gap_113 (lv_at hl 0 rfl) ?_
        refine z_cV (As := [.int z7, .int z9]) (rest := []) ⟨hx, hb, hml, hown, hts⟩ (kX0_mendedWithin l G ((z + 1) + 6 + 4 * t.toNat) (σ.1.2.2 t.toNat) z7 (fgZ (σ.1.2.2 t.toNat) k) e7 z9 ((hbZ (σ.1.2.2 t.toNat) (fgZ (σ.1.2.2 t.toNat) k)) - (1 : Int)) e9 (by first | assumption | omega)) (cwV 2 hts gX4_gap_X0_mendedWithin rfl rfl rfl hyX0_mendedWithin ⟨Nat.le_of_ble_eq_true rfl, Nat.le_of_ble_eq_true rfl⟩) hK hJ4 hJ4.1 rfl rfl hl.1 rfl (Nat.le_of_ble_eq_true rfl) dX4_gap_115 ⟨Nat.zero_le _, Nat.zero_le _⟩ (fun z13 e13 => ?_)
        have e13 : z13.toInt = sumZ (fun i => if kindZ (σ.1.2.2 t.toNat) i = 2 then 1 else 0) (fgZ (σ.1.2.2 t.toNat) k) (((hbZ (σ.1.2.2 t.toNat) (fgZ (σ.1.2.2 t.toNat) k)) - (1 : Int)) + 1 - (fgZ (σ.1.2.2 t.toNat) k)).toNat := e13
        have e13 : z13.toInt = mwZ (σ.1.2.2 t.toNat) (fgZ (σ.1.2.2 t.toNat) k) (hbZ (σ.1.2.2 t.toNat) (fgZ (σ.1.2.2 t.toNat) k)) := by rw [e13]; unfold mwZ; congr 1; omega
        exact z_ri (v := z13) hx hb hr hlocks (show z13.toInt = a_gap σ t k w from (by unfold a_gap gpW; (repeat' split) <;> first | rfl | omega | contradiction | assumption)) dX4_gap_118
    · refine lv_iconst (v := (-1 : Int32)) hx hb dX4_gap_23 (by decide) ?_
      exact z_ri (v := (-1 : Int32)) hx hb hr hlocks (show (-1 : Int32).toInt = a_gap σ t k w from (by unfold a_gap gpW; (repeat' split) <;> first | rfl | omega | contradiction | assumption)) dX4_gap_24

abbrev rmX4_checkMending : Room := { frames := 5, cells := 0, slots := 0, locals := 109 }
theorem iwX4_checkMending_2 : ∀ w ∈ wsX20, w ∈ wsX4_checkMending := fun _ h => List.mem_cons_of_mem _ (List.mem_append_left _ (List.mem_append_right _ h))
theorem iwX4_checkMending_4 : ∀ w ∈ wsX40, w ∈ wsX4_checkMending := fun _ h => List.mem_cons_of_mem _ (List.mem_append_left _ (List.mem_append_left _ (List.mem_append_right _ h)))
theorem flX4_checkMending_10 : Cond.fieldLink RX4 10 "SiltedFloats" "now" "LSiltedFloats$State;" ∈ wsX4_checkMending := by decide +kernel
theorem flX4_checkMending_66 : Cond.fieldLink RX4 66 "SiltedFloats$State" "gauges" "[LSiltedFloats$Gauge;" ∈ wsX4_checkMending := by decide +kernel
theorem hyX4_checkMending : yX4_checkMending.cls = RX4 ∧ yX4_checkMending.cls ≠ "java/lang/invoke/MethodHandle" ∧ yX4_checkMending.cls ≠ "java/lang/invoke/VarHandle" ∧ (parseMethodDescriptor yX4_checkMending.desc).map (fun d => d.parameters.length) = some 4 := by decide +kernel
set_option maxHeartbeats 4000000 in
set_option maxRecDepth 100000 in
theorem kX4_checkMending (l : Launch) (G : xG) (z : Nat) (σ : FD) (xt : Int32) (t : Int) (e_xt : xt.toInt = t) (xk : Int32) (k : Int) (e_xk : xk.toInt = k) (xo : Int32) (o : Int) (e_xo : xo.toInt = o) (xf : Int32) (f : Int) (e_xf : xf.toInt = f) (hok : fdOk σ) : Met l yX4_checkMending wsX4_checkMending rmX4_checkMending (va_Pc [.ref z, .int xt, .int xk, .int xo, .int xf] (zPre G (fun H => SFP G H z σ))) (zS (fun v => v.toInt = ckZ σ t k o f)) 0 0 zno := by
  refine z_ofW (cc := cX4_checkMending) (maxL := 5) (ret := some .int) (by decide +kernel) rfl (Nat.le_of_ble_eq_true rfl) ?_
  intro p e s m below meth c hx hb hml hr hts hown hlocks hK hP ls hl
  have hF := hP
  have hown : s.vm.findClass RX4 = some m.cls := hown
  have hl : lv_has ls 5 [(0, .ref z), (1, .int xt), (2, .int xk), (3, .int xo), (4, .int xf)] := hl
  have hok1 := hok.1
  have hokh := hok1.1
  refine lv_iload_n hx hb dX4_checkMending_0 rfl (lv_at hl 1 rfl) ?_
  refine z_cS (As := [.int xt]) (rest := []) ⟨hx, hb, hml, hown, hts⟩ (kX4_isStation l G xt t e_xt) (va_cwS 1 hts gX4_checkMending_X4_isStation rfl rfl rfl hyX4_isStation ⟨Nat.le_of_ble_eq_true rfl, Nat.le_of_ble_eq_true rfl⟩) hK trivial rfl hl.1 rfl (Nat.le_of_ble_eq_true rfl) dX4_checkMending_1 ⟨Nat.zero_le _, Nat.zero_le _⟩ (fun z1 e1 => ?_)
  have e1 : isB z1 (0 ≤ t ∧ t < 3) := e1
  refine z_ifb_eq (tgt := 30) hx hb e1 dX4_checkMending_4 (by decide) (fun c_2 => ?_) (fun c_2 => ?_)
  · refine lv_iconst (v := (-1 : Int32)) hx hb dX4_checkMending_30 (by decide) ?_
    exact z_ri (v := (-1 : Int32)) hx hb hr hlocks (show (-1 : Int32).toInt = ckZ σ t k o f from (by unfold ckZ; (repeat' split) <;> first | rfl | omega | contradiction | assumption)) dX4_checkMending_31
  · refine lv_iload_n hx hb dX4_checkMending_7 rfl (lv_at hl 3 rfl) ?_
    refine z_cS (As := [.int xo]) (rest := []) ⟨hx, hb, hml, hown, hts⟩ (kX4_isStation l G xo o e_xo) (va_cwS 1 hts gX4_checkMending_X4_isStation rfl rfl rfl hyX4_isStation ⟨Nat.le_of_ble_eq_true rfl, Nat.le_of_ble_eq_true rfl⟩) hK trivial rfl hl.1 rfl (Nat.le_of_ble_eq_true rfl) dX4_checkMending_8 ⟨Nat.zero_le _, Nat.zero_le _⟩ (fun z3 e3 => ?_)
    have e3 : isB z3 (0 ≤ o ∧ o < 3) := e3
    refine z_ifb_eq (tgt := 30) hx hb e3 dX4_checkMending_11 (by decide) (fun c_4 => ?_) (fun c_4 => ?_)
    · refine lv_iconst (v := (-1 : Int32)) hx hb dX4_checkMending_30 (by decide) ?_
      exact z_ri (v := (-1 : Int32)) hx hb hr hlocks (show (-1 : Int32).toInt = ckZ σ t k o f from (by unfold ckZ; (repeat' split) <;> first | rfl | omega | contradiction | assumption)) dX4_checkMending_31
    · refine lv_aload_n hx hb dX4_checkMending_14 rfl (lv_at hl 0 rfl) ?_
      have hN5 : ST G s.heap (z + 1) σ.1 := hF.now
      refine z_get hx hb hts iwX4_checkMending_4 hown hK hF.1 rfl 0 (by decide) flX4_checkMending_10 rfl (v := .ref (z + 1)) rfl dX4_checkMending_15 ?_
      refine z_get hx hb hts iwX4_checkMending_2 hown hK hN5.1 rfl 2 (by decide) flX4_checkMending_66 rfl (v := .ref ((z + 1) + 5)) rfl dX4_checkMending_18 ?_
      refine lv_iload_n hx hb dX4_checkMending_21 rfl (lv_at hl 1 rfl) ?_
      have hJ6 : GA G s.heap ((z + 1) + 6 + 4 * t.toNat) (σ.1.2.2 t.toNat) := hN5.gauge (i := t.toNat) (by omega)
      refine z_aald (b := (z + 1) + 6 + 4 * t.toNat) hx hb hK 3 hN5.2.2.1 rfl e_xt (by omega) rfl dX4_checkMending_22 ?_
      refine lv_iload_n hx hb dX4_checkMending_23 rfl (lv_at hl 2 rfl) ?_
      refine z_cV (As := [.int xk]) (rest := []) ⟨hx, hb, hml, hown, hts⟩ (kX0_hasGap l G ((z + 1) + 6 + 4 * t.toNat) (σ.1.2.2 t.toNat) xk k e_xk) (cwV 1 hts gX4_checkMending_X0_hasGap rfl rfl rfl hyX0_hasGap ⟨Nat.le_of_ble_eq_true rfl, Nat.le_of_ble_eq_true rfl⟩) hK hJ6 hJ6.1 rfl rfl hl.1 rfl (Nat.le_of_ble_eq_true rfl) dX4_checkMending_24 ⟨Nat.zero_le _, Nat.zero_le _⟩ (fun z7 e7 => ?_)
      have e7 : isB z7 (fgZ (σ.1.2.2 t.toNat) k ≠ -1) := e7
      refine z_ifb_ne (tgt := 32) hx hb e7 dX4_checkMending_27 (by decide) (fun c_8 => ?_) (fun c_8 => ?_)
      · refine lv_iload hx hb dX4_checkMending_32 (lv_at hl 4 rfl) ?_
        refine lv_bipush (v := (-12 : Int32)) hx hb dX4_checkMending_34 (by decide) ?_
        refine lv_bipush (v := (12 : Int32)) hx hb dX4_checkMending_36 (by decide) ?_
        refine z_cS (As := [.int xf, .int (-12 : Int32), .int (12 : Int32)]) (rest := []) ⟨hx, hb, hml, hown, hts⟩ (kX4_isWithin l G xf f e_xf (-12 : Int32) (-12 : Int) kI_m12 (12 : Int32) (12 : Int) kI_12) (va_cwS 3 hts gX4_checkMending_X4_isWithin rfl rfl rfl hyX4_isWithin ⟨Nat.le_of_ble_eq_true rfl, Nat.le_of_ble_eq_true rfl⟩) hK trivial rfl hl.1 rfl (Nat.le_of_ble_eq_true rfl) dX4_checkMending_38 ⟨Nat.zero_le _, Nat.zero_le _⟩ (fun z9 e9 => ?_)
        have e9 : isB z9 ((-12 : Int) ≤ f ∧ f ≤ (12 : Int)) := e9
        refine z_ifb_eq (tgt := 49) hx hb e9 dX4_checkMending_41 (by decide) (fun c_10 => ?_) (fun c_10 => ?_)
        · refine lv_bipush (v := (-2 : Int32)) hx hb dX4_checkMending_49 (by decide) ?_
          exact z_ri (v := (-2 : Int32)) hx hb hr hlocks (show (-2 : Int32).toInt = ckZ σ t k o f from (by unfold ckZ; (repeat' split) <;> first | rfl | omega | contradiction | assumption)) dX4_checkMending_51
        · refine lv_iload_n hx hb dX4_checkMending_44 rfl (lv_at hl 3 rfl) ?_
          refine lv_iload_n hx hb dX4_checkMending_45 rfl (lv_at hl 1 rfl) ?_
          refine z_icmp_ne (tgt := 52) hx hb e_xo e_xt dX4_checkMending_46 (by decide) (fun c_11 => ?_) (fun c_11 => ?_)
          · refine lv_aload_n hx hb dX4_checkMending_52 rfl (lv_at hl 0 rfl) ?_
            refine z_get hx hb hts iwX4_checkMending_4 hown hK hF.1 rfl 0 (by decide) flX4_checkMending_10 rfl (v := .ref (z + 1)) rfl dX4_checkMending_53 ?_
            refine z_get hx hb hts iwX4_checkMending_2 hown hK hN5.1 rfl 2 (by decide) flX4_checkMending_66 rfl (v := .ref ((z + 1) + 5)) rfl dX4_checkMending_56 ?_
            refine lv_iload_n hx hb dX4_checkMending_59 rfl (lv_at hl 1 rfl) ?_
            refine z_aald (b := (z + 1) + 6 + 4 * t.toNat) hx hb hK 3 hN5.2.2.1 rfl e_xt (by omega) rfl dX4_checkMending_60 ?_
            refine lv_iload_n hx hb dX4_checkMending_61 rfl (lv_at hl 2 rfl) ?_
            refine z_cV (As := [.int xk]) (rest := []) ⟨hx, hb, hml, hown, hts⟩ (kX0_isInner l G ((z + 1) + 6 + 4 * t.toNat) (σ.1.2.2 t.toNat) xk k e_xk) (cwV 1 hts gX4_checkMending_X0_isInner rfl rfl rfl hyX0_isInner ⟨Nat.le_of_ble_eq_true rfl, Nat.le_of_ble_eq_true rfl⟩) hK hJ6 hJ6.1 rfl rfl hl.1 rfl (Nat.le_of_ble_eq_true rfl) dX4_checkMending_62 ⟨Nat.zero_le _, Nat.zero_le _⟩ (fun z12 e12 => ?_)
            have e12 : isB z12 (kindZ (σ.1.2.2 t.toNat) (fgZ (σ.1.2.2 t.toNat) k - 1) = 0 ∧ kindZ (σ.1.2.2 t.toNat) (hbZ (σ.1.2.2 t.toNat) (fgZ (σ.1.2.2 t.toNat) k)) = 0) := e12
            refine z_ifb_eq (tgt := 72) hx hb e12 dX4_checkMending_65 (by decide) (fun c_13 => ?_) (fun c_13 => ?_)
            · refine lv_bipush (v := (-4 : Int32)) hx hb dX4_checkMending_72 (by decide) ?_
              exact z_ri (v := (-4 : Int32)) hx hb hr hlocks (show (-4 : Int32).toInt = ckZ σ t k o f from (by unfold ckZ; (repeat' split) <;> first | rfl | omega | contradiction | assumption)) dX4_checkMending_74
            · refine lv_iconst (v := (0 : Int32)) hx hb dX4_checkMending_68 (by decide) ?_
              refine lv_goto (tgt := 74) hx hb dX4_checkMending_69 (by decide) ?_
              exact z_ri (v := (0 : Int32)) hx hb hr hlocks (show (0 : Int32).toInt = ckZ σ t k o f from (by unfold ckZ; (repeat' split) <;> first | rfl | omega | contradiction | assumption)) dX4_checkMending_74
          · refine lv_bipush (v := (-2 : Int32)) hx hb dX4_checkMending_49 (by decide) ?_
            exact z_ri (v := (-2 : Int32)) hx hb hr hlocks (show (-2 : Int32).toInt = ckZ σ t k o f from (by unfold ckZ; (repeat' split) <;> first | rfl | omega | contradiction | assumption)) dX4_checkMending_51
      · refine lv_iconst (v := (-1 : Int32)) hx hb dX4_checkMending_30 (by decide) ?_
        exact z_ri (v := (-1 : Int32)) hx hb hr hlocks (show (-1 : Int32).toInt = ckZ σ t k o f from (by unfold ckZ; (repeat' split) <;> first | rfl | omega | contradiction | assumption)) dX4_checkMending_31
