abbrev rmX4_station : Room := { frames := 4, cells := 0, slots := 0, locals := 86 }
theorem iwX4_station_0 : ∀ w ∈ wsX00, w ∈ wsX4_station := fun _ h => List.mem_cons_of_mem _ (List.mem_append_right _ h)
theorem iwX4_station_2 : ∀ w ∈ wsX20, w ∈ wsX4_station := fun _ h => List.mem_cons_of_mem _ (List.mem_append_left _ (List.mem_append_right _ h))
theorem iwX4_station_4 : ∀ w ∈ wsX40, w ∈ wsX4_station := fun _ h => List.mem_cons_of_mem _ (List.mem_append_left _ (List.mem_append_left _ (List.mem_append_right _ h)))
theorem flX4_station_10 : Cond.fieldLink RX4 10 "SiltedFloats" "now" "LSiltedFloats$State;" ∈ wsX4_station := by decide +kernel
theorem flX4_station_105 : Cond.fieldLink RX4 105 "SiltedFloats$Gauge" "sunk" "I" ∈ wsX4_station := by decide +kernel
theorem flX4_station_176 : Cond.fieldLink RX4 176 "SiltedFloats$Gauge" "delay" "I" ∈ wsX4_station := by decide +kernel
theorem flX4_station_179 : Cond.fieldLink RX4 179 "SiltedFloats$Gauge" "scale" "I" ∈ wsX4_station := by decide +kernel
theorem flX4_station_182 : Cond.fieldLink RX4 182 "SiltedFloats$Gauge" "offset" "I" ∈ wsX4_station := by decide +kernel
theorem flX4_station_188 : Cond.fieldLink RX4 188 "SiltedFloats$Gauge" "notes" "I" ∈ wsX4_station := by decide +kernel
theorem flX4_station_66 : Cond.fieldLink RX4 66 "SiltedFloats$State" "gauges" "[LSiltedFloats$Gauge;" ∈ wsX4_station := by decide +kernel
theorem flX4_station_78 : Cond.fieldLink RX4 78 "SiltedFloats$Gauge" "floatLevel" "I" ∈ wsX4_station := by decide +kernel
theorem flX4_station_81 : Cond.fieldLink RX4 81 "SiltedFloats$Gauge" "sinking" "I" ∈ wsX4_station := by decide +kernel
theorem flX4_station_84 : Cond.fieldLink RX4 84 "SiltedFloats$Gauge" "silting" "I" ∈ wsX4_station := by decide +kernel
theorem flX4_station_87 : Cond.fieldLink RX4 87 "SiltedFloats$Gauge" "on" "Z" ∈ wsX4_station := by decide +kernel
theorem flX4_station_95 : Cond.fieldLink RX4 95 "SiltedFloats$Gauge" "silt" "I" ∈ wsX4_station := by decide +kernel
theorem flX4_station_c61 : Cond.constant RX4 61 (100000) ∈ wsX4_station := by decide +kernel
theorem hyX4_station : yX4_station.cls = RX4 ∧ yX4_station.cls ≠ "java/lang/invoke/MethodHandle" ∧ yX4_station.cls ≠ "java/lang/invoke/VarHandle" ∧ (parseMethodDescriptor yX4_station.desc).map (fun d => d.parameters.length) = some 2 := by decide +kernel
set_option maxHeartbeats 4000000 in
set_option maxRecDepth 100000 in
theorem kX4_station (l : Launch) (G : xG) (z : Nat) (σ : FD) (xt : Int32) (t : Int) (e_xt : xt.toInt = t) (xw : Int32) (w : Int) (e_xw : xw.toInt = w) (hok : fdOk σ) : Met l yX4_station wsX4_station rmX4_station (va_Pc [.ref z, .int xt, .int xw] (zPre G (fun H => SFP G H z σ))) (zS (fun v => v.toInt = a_station σ t w)) 0 0 zno := by
  refine z_ofW (cc := cX4_station) (maxL := 4) (ret := some .int) (by decide +kernel) rfl (Nat.le_of_ble_eq_true rfl) ?_
  intro p e s m below meth c hx hb hml hr hts hown hlocks hK hP ls hl
  have hF := hP
  have hown : s.vm.findClass RX4 = some m.cls := hown
  have hl : lv_has ls 4 [(0, .ref z), (1, .int xt), (2, .int xw)] := hl
  have hok1 := hok.1
  have hokh := hok1.1
  refine lv_iload_n hx hb dX4_station_0 rfl (lv_at hl 1 rfl) ?_
  refine z_cS (As := [.int xt]) (rest := []) ⟨hx, hb, hml, hown, hts⟩ (kX4_isStation l G xt t e_xt) (va_cwS 1 hts gX4_station_X4_isStation rfl rfl rfl hyX4_isStation ⟨Nat.le_of_ble_eq_true rfl, Nat.le_of_ble_eq_true rfl⟩) hK trivial rfl hl.1 rfl (Nat.le_of_ble_eq_true rfl) dX4_station_1 ⟨Nat.zero_le _, Nat.zero_le _⟩ (fun z1 e1 => ?_)
  have e1 : isB z1 (0 ≤ t ∧ t < 3) := e1
  refine z_ifb_ne (tgt := 9) hx hb e1 dX4_station_4 (by decide) (fun c_2 => ?_) (fun c_2 => ?_)
  · have hgo := hok1.2.2 t.toNat (by omega)
    have hgb := hgo.1
    have hg2 := hgo.2.1
    have hg3 := hgo.2.2.1
    refine lv_aload_n hx hb dX4_station_9 rfl (lv_at hl 0 rfl) ?_
    have hN3 : ST G s.heap (z + 1) σ.1 := hF.now
    refine z_get hx hb hts iwX4_station_4 hown hK hF.1 rfl 0 (by decide) flX4_station_10 rfl (v := .ref (z + 1)) rfl dX4_station_10 ?_
    refine z_get hx hb hts iwX4_station_2 hown hK hN3.1 rfl 2 (by decide) flX4_station_66 rfl (v := .ref ((z + 1) + 5)) rfl dX4_station_13 ?_
    refine lv_iload_n hx hb dX4_station_16 rfl (lv_at hl 1 rfl) ?_
    have hJ4 : GA G s.heap ((z + 1) + 6 + 4 * t.toNat) (σ.1.2.2 t.toNat) := hN3.gauge (i := t.toNat) (by omega)
    refine z_aald (b := (z + 1) + 6 + 4 * t.toNat) hx hb hK 3 hN3.2.2.1 rfl e_xt (by omega) rfl dX4_station_17 ?_
    refine lv_astore_n hx hb dX4_station_18 rfl hl (by decide) rfl (fun ls hl => ?_)
    have hl : lv_has ls 4 [(3, .ref ((z + 1) + 6 + 4 * t.toNat)), (0, .ref z), (1, .int xt), (2, .int xw)] := hl
    refine lv_iload_n hx hb dX4_station_19 rfl (lv_at hl 3 rfl) ?_
    rcases (show w < 0 ∨ 12 < w ∨ w = 0 ∨ w = 1 ∨ w = 2 ∨ w = 3 ∨ w = 4 ∨ w = 5 ∨ w = 6 ∨ w = 7 ∨ w = 8 ∨ w = 9 ∨ w = 10 ∨ w = 11 ∨ w = 12 from by omega) with c_5 | c_5 | c_5 | c_5 | c_5 | c_5 | c_5 | c_5 | c_5 | c_5 | c_5 | c_5 | c_5 | c_5 | c_5
    · refine lv_tableOut (tgt := 169) hx hb dX4_station_20 (by rw [e_xw]; omega) (by decide) ?_
      refine lv_bipush (v := (-2 : Int32)) hx hb dX4_station_169 (by decide) ?_
      exact z_ri (v := (-2 : Int32)) hx hb hr hlocks (show (-2 : Int32).toInt = a_station σ t w from (by unfold a_station; rw [if_neg (by omega), stW_out (by omega)]; rfl)) dX4_station_171
    · refine lv_tableOut (tgt := 169) hx hb dX4_station_20 (by rw [e_xw]; omega) (by decide) ?_
      refine lv_bipush (v := (-2 : Int32)) hx hb dX4_station_169 (by decide) ?_
      exact z_ri (v := (-2 : Int32)) hx hb hr hlocks (show (-2 : Int32).toInt = a_station σ t w from (by unfold a_station; rw [if_neg (by omega), stW_out (by omega)]; rfl)) dX4_station_171
    · refine lv_tableIn (off := 68) (tgt := 88) hx hb dX4_station_20 (by rw [e_xw]; omega) (by rw [e_xw]; omega) (by rw [e_xw, c_5]; rfl) (by decide) ?_
      refine lv_aload_n hx hb dX4_station_88 rfl (lv_at hl 0 rfl) ?_
      refine z_get hx hb hts iwX4_station_0 hown hK hJ4.1 rfl 0 (by decide) flX4_station_176 rfl (v := .int (((σ.1.2.2 t.toNat).1) 0)) rfl dX4_station_89 ?_
      exact z_ri (v := ((σ.1.2.2 t.toNat).1) 0) hx hb hr hlocks (show (((σ.1.2.2 t.toNat).1) 0).toInt = a_station σ t w from (by unfold a_station; rw [if_neg (by omega), show w = 0 by omega]; exact rfl)) dX4_station_92
    · refine lv_tableIn (off := 73) (tgt := 93) hx hb dX4_station_20 (by rw [e_xw]; omega) (by rw [e_xw]; omega) (by rw [e_xw, c_5]; rfl) (by decide) ?_
      refine lv_aload_n hx hb dX4_station_93 rfl (lv_at hl 0 rfl) ?_
      refine z_get hx hb hts iwX4_station_0 hown hK hJ4.1 rfl 1 (by decide) flX4_station_179 rfl (v := .int (((σ.1.2.2 t.toNat).1) 1)) rfl dX4_station_94 ?_
      exact z_ri (v := ((σ.1.2.2 t.toNat).1) 1) hx hb hr hlocks (show (((σ.1.2.2 t.toNat).1) 1).toInt = a_station σ t w from (by unfold a_station; rw [if_neg (by omega), show w = 1 by omega]; exact rfl)) dX4_station_97
    · refine lv_tableIn (off := 78) (tgt := 98) hx hb dX4_station_20 (by rw [e_xw]; omega) (by rw [e_xw]; omega) (by rw [e_xw, c_5]; rfl) (by decide) ?_
      refine lv_aload_n hx hb dX4_station_98 rfl (lv_at hl 0 rfl) ?_
      refine z_get hx hb hts iwX4_station_0 hown hK hJ4.1 rfl 2 (by decide) flX4_station_182 rfl (v := .int (((σ.1.2.2 t.toNat).1) 2)) rfl dX4_station_99 ?_
      refine lv_ldc (v := (100000 : Int32)) hx hb hown (hts _ flX4_station_c61) dX4_station_102 ?_
      refine z_iadd hx hb rfl kI_100000 dX4_station_104 (by omega) (fun z6 e6 => ?_)
      exact z_ri (v := z6) hx hb hr hlocks (show z6.toInt = a_station σ t w from (by unfold a_station; rw [if_neg (by omega), show w = 2 by omega]; exact e6)) dX4_station_105
    · refine lv_tableIn (off := 86) (tgt := 106) hx hb dX4_station_20 (by rw [e_xw]; omega) (by rw [e_xw]; omega) (by rw [e_xw, c_5]; rfl) (by decide) ?_
      refine lv_aload_n hx hb dX4_station_106 rfl (lv_at hl 0 rfl) ?_
      refine z_get hx hb hts iwX4_station_0 hown hK hJ4.1 rfl 3 (by decide) flX4_station_78 rfl (v := .int (((σ.1.2.2 t.toNat).1) 3)) rfl dX4_station_107 ?_
      refine lv_ldc (v := (100000 : Int32)) hx hb hown (hts _ flX4_station_c61) dX4_station_110 ?_
      refine z_iadd hx hb rfl kI_100000 dX4_station_112 (by omega) (fun z7 e7 => ?_)
      exact z_ri (v := z7) hx hb hr hlocks (show z7.toInt = a_station σ t w from (by unfold a_station; rw [if_neg (by omega), show w = 3 by omega]; exact e7)) dX4_station_113
    · refine lv_tableIn (off := 94) (tgt := 114) hx hb dX4_station_20 (by rw [e_xw]; omega) (by rw [e_xw]; omega) (by rw [e_xw, c_5]; rfl) (by decide) ?_
      refine lv_aload_n hx hb dX4_station_114 rfl (lv_at hl 0 rfl) ?_
      refine z_get hx hb hts iwX4_station_0 hown hK hJ4.1 rfl 4 (by decide) flX4_station_95 rfl (v := .int (((σ.1.2.2 t.toNat).1) 4)) rfl dX4_station_115 ?_
      exact z_ri (v := ((σ.1.2.2 t.toNat).1) 4) hx hb hr hlocks (show (((σ.1.2.2 t.toNat).1) 4).toInt = a_station σ t w from (by unfold a_station; rw [if_neg (by omega), show w = 4 by omega]; exact rfl)) dX4_station_118
    · refine lv_tableIn (off := 99) (tgt := 119) hx hb dX4_station_20 (by rw [e_xw]; omega) (by rw [e_xw]; omega) (by rw [e_xw, c_5]; rfl) (by decide) ?_
      refine lv_aload_n hx hb dX4_station_119 rfl (lv_at hl 0 rfl) ?_
      refine z_get hx hb hts iwX4_station_0 hown hK hJ4.1 rfl 5 (by decide) flX4_station_84 rfl (v := .int (((σ.1.2.2 t.toNat).1) 5)) rfl dX4_station_120 ?_
      exact z_ri (v := ((σ.1.2.2 t.toNat).1) 5) hx hb hr hlocks (show (((σ.1.2.2 t.toNat).1) 5).toInt = a_station σ t w from (by unfold a_station; rw [if_neg (by omega), show w = 5 by omega]; exact rfl)) dX4_station_123
    · refine lv_tableIn (off := 104) (tgt := 124) hx hb dX4_station_20 (by rw [e_xw]; omega) (by rw [e_xw]; omega) (by rw [e_xw, c_5]; rfl) (by decide) ?_
      refine lv_aload_n hx hb dX4_station_124 rfl (lv_at hl 0 rfl) ?_
      refine z_get hx hb hts iwX4_station_0 hown hK hJ4.1 rfl 6 (by decide) flX4_station_81 rfl (v := .int (((σ.1.2.2 t.toNat).1) 6)) rfl dX4_station_125 ?_
      exact z_ri (v := ((σ.1.2.2 t.toNat).1) 6) hx hb hr hlocks (show (((σ.1.2.2 t.toNat).1) 6).toInt = a_station σ t w from (by unfold a_station; rw [if_neg (by omega), show w = 6 by omega]; exact rfl)) dX4_station_128
    · refine lv_tableIn (off := 109) (tgt := 129) hx hb dX4_station_20 (by rw [e_xw]; omega) (by rw [e_xw]; omega) (by rw [e_xw, c_5]; rfl) (by decide) ?_
      refine lv_aload_n hx hb dX4_station_129 rfl (lv_at hl 0 rfl) ?_
      refine z_get hx hb hts iwX4_station_0 hown hK hJ4.1 rfl 7 (by decide) flX4_station_105 rfl (v := .int (((σ.1.2.2 t.toNat).1) 7)) rfl dX4_station_130 ?_
      exact z_ri (v := ((σ.1.2.2 t.toNat).1) 7) hx hb hr hlocks (show (((σ.1.2.2 t.toNat).1) 7).toInt = a_station σ t w from (by unfold a_station; rw [if_neg (by omega), show w = 7 by omega]; exact rfl)) dX4_station_133
    · refine lv_tableIn (off := 114) (tgt := 134) hx hb dX4_station_20 (by rw [e_xw]; omega) (by rw [e_xw]; omega) (by rw [e_xw, c_5]; rfl) (by decide) ?_
      refine lv_aload_n hx hb dX4_station_134 rfl (lv_at hl 0 rfl) ?_
      refine z_get hx hb hts iwX4_station_0 hown hK hJ4.1 rfl 8 (by decide) flX4_station_87 rfl (v := .int (((σ.1.2.2 t.toNat).1) 8)) rfl dX4_station_135 ?_
      refine z_if_eq (tgt := 145) hx hb rfl dX4_station_138 (by decide) (fun c_8 => ?_) (fun c_8 => ?_)
      · refine lv_iconst (v := (0 : Int32)) hx hb dX4_station_145 (by decide) ?_
        exact z_ri (v := (0 : Int32)) hx hb hr hlocks (show (0 : Int32).toInt = a_station σ t w from (by unfold a_station; rw [if_neg (by omega), show w = 8 by omega]; exact (if_pos (by omega)).symm)) dX4_station_146
      · refine lv_iconst (v := (1 : Int32)) hx hb dX4_station_141 (by decide) ?_
        refine lv_goto (tgt := 146) hx hb dX4_station_142 (by decide) ?_
        exact z_ri (v := (1 : Int32)) hx hb hr hlocks (show (1 : Int32).toInt = a_station σ t w from (by unfold a_station; rw [if_neg (by omega), show w = 8 by omega]; exact (if_neg (by omega)).symm)) dX4_station_146
    · refine lv_tableIn (off := 127) (tgt := 147) hx hb dX4_station_20 (by rw [e_xw]; omega) (by rw [e_xw]; omega) (by rw [e_xw, c_5]; rfl) (by decide) ?_
      refine lv_aload_n hx hb dX4_station_147 rfl (lv_at hl 0 rfl) ?_
      refine lv_iconst (v := (0 : Int32)) hx hb dX4_station_148 (by decide) ?_
      refine z_cV (As := [.int (0 : Int32)]) (rest := []) ⟨hx, hb, hml, hown, hts⟩ (kX0_hoursOfKind l G ((z + 1) + 6 + 4 * t.toNat) (σ.1.2.2 t.toNat) (0 : Int32) (0 : Int) kI_0) (cwV 1 hts gX4_station_X0_hoursOfKind rfl rfl rfl hyX0_hoursOfKind ⟨Nat.le_of_ble_eq_true rfl, Nat.le_of_ble_eq_true rfl⟩) hK hJ4 hJ4.1 rfl rfl hl.1 rfl (Nat.le_of_ble_eq_true rfl) dX4_station_149 ⟨Nat.zero_le _, Nat.zero_le _⟩ (fun z9 e9 => ?_)
      have e9 : z9.toInt = cntZ (fun j => ((σ.1.2.2 t.toNat).2.1 j).toInt = (0 : Int)) 120 := e9
      exact z_ri (v := z9) hx hb hr hlocks (show z9.toInt = a_station σ t w from (by unfold a_station; rw [if_neg (by omega), show w = 9 by omega]; exact e9)) dX4_station_152
    · refine lv_tableIn (off := 133) (tgt := 153) hx hb dX4_station_20 (by rw [e_xw]; omega) (by rw [e_xw]; omega) (by rw [e_xw, c_5]; rfl) (by decide) ?_
      refine lv_aload_n hx hb dX4_station_153 rfl (lv_at hl 0 rfl) ?_
      refine z_cV (As := []) (rest := []) ⟨hx, hb, hml, hown, hts⟩ (kX0_gaps l G ((z + 1) + 6 + 4 * t.toNat) (σ.1.2.2 t.toNat)) (cwV 0 hts gX4_station_X0_gaps rfl rfl rfl hyX0_gaps ⟨Nat.le_of_ble_eq_true rfl, Nat.le_of_ble_eq_true rfl⟩) hK hJ4 hJ4.1 rfl rfl hl.1 rfl (Nat.le_of_ble_eq_true rfl) dX4_station_154 ⟨Nat.zero_le _, Nat.zero_le _⟩ (fun z10 e10 => ?_)
      have e10 : z10.toInt = cntZ (fun j => sgP (σ.1.2.2 t.toNat) (j : Int)) 120 := e10
      exact z_ri (v := z10) hx hb hr hlocks (show z10.toInt = a_station σ t w from (by unfold a_station; rw [if_neg (by omega), show w = 10 by omega]; exact e10)) dX4_station_157
    · refine lv_tableIn (off := 138) (tgt := 158) hx hb dX4_station_20 (by rw [e_xw]; omega) (by rw [e_xw]; omega) (by rw [e_xw, c_5]; rfl) (by decide) ?_
      refine lv_aload_n hx hb dX4_station_158 rfl (lv_at hl 0 rfl) ?_
      refine lv_iconst (v := (2 : Int32)) hx hb dX4_station_159 (by decide) ?_
      refine z_cV (As := [.int (2 : Int32)]) (rest := []) ⟨hx, hb, hml, hown, hts⟩ (kX0_hoursOfKind l G ((z + 1) + 6 + 4 * t.toNat) (σ.1.2.2 t.toNat) (2 : Int32) (2 : Int) kI_2) (cwV 1 hts gX4_station_X0_hoursOfKind rfl rfl rfl hyX0_hoursOfKind ⟨Nat.le_of_ble_eq_true rfl, Nat.le_of_ble_eq_true rfl⟩) hK hJ4 hJ4.1 rfl rfl hl.1 rfl (Nat.le_of_ble_eq_true rfl) dX4_station_160 ⟨Nat.zero_le _, Nat.zero_le _⟩ (fun z11 e11 => ?_)
      have e11 : z11.toInt = cntZ (fun j => ((σ.1.2.2 t.toNat).2.1 j).toInt = (2 : Int)) 120 := e11
      exact z_ri (v := z11) hx hb hr hlocks (show z11.toInt = a_station σ t w from (by unfold a_station; rw [if_neg (by omega), show w = 11 by omega]; exact e11)) dX4_station_163
    · refine lv_tableIn (off := 144) (tgt := 164) hx hb dX4_station_20 (by rw [e_xw]; omega) (by rw [e_xw]; omega) (by rw [e_xw, c_5]; rfl) (by decide) ?_
      refine lv_aload_n hx hb dX4_station_164 rfl (lv_at hl 0 rfl) ?_
      refine z_get hx hb hts iwX4_station_0 hown hK hJ4.1 rfl 9 (by decide) flX4_station_188 rfl (v := .int (((σ.1.2.2 t.toNat).1) 9)) rfl dX4_station_165 ?_
      exact z_ri (v := ((σ.1.2.2 t.toNat).1) 9) hx hb hr hlocks (show (((σ.1.2.2 t.toNat).1) 9).toInt = a_station σ t w from (by unfold a_station; rw [if_neg (by omega), show w = 12 by omega]; exact rfl)) dX4_station_168
  · refine lv_iconst (v := (-1 : Int32)) hx hb dX4_station_7 (by decide) ?_
    exact z_ri (v := (-1 : Int32)) hx hb hr hlocks (show (-1 : Int32).toInt = a_station σ t w from (by unfold a_station; rw [if_pos (by omega)]; rfl)) dX4_station_8
