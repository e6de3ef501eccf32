abbrev rmX0_become : Room := { frames := 0, cells := 0, slots := 0, locals := 0 }
theorem iwX0_become_0 : ∀ w ∈ wsX00, w ∈ wsX0_become := fun _ h => List.mem_cons_of_mem _ (List.mem_append_right _ h)
theorem flX0_become_39 : Cond.fieldLink RX0 39 "SiltedFloats$Gauge" "delay" "I" ∈ wsX0_become := by decide +kernel
theorem flX0_become_42 : Cond.fieldLink RX0 42 "SiltedFloats$Gauge" "scale" "I" ∈ wsX0_become := by decide +kernel
theorem flX0_become_45 : Cond.fieldLink RX0 45 "SiltedFloats$Gauge" "offset" "I" ∈ wsX0_become := by decide +kernel
theorem hyX0_become : yX0_become.cls = RX0 ∧ yX0_become.cls ≠ "java/lang/invoke/MethodHandle" ∧ yX0_become.cls ≠ "java/lang/invoke/VarHandle" ∧ (parseMethodDescriptor yX0_become.desc).map (fun d => d.parameters.length) = some 3 := by decide +kernel
set_option maxHeartbeats 4000000 in
set_option maxRecDepth 100000 in
theorem kX0_become (l : Launch) (G : xG) (g : Nat) (d : GD) (x : Int32) (a : Int) (e_x : x.toInt = a) (y : Int32) (b : Int) (e_y : y.toInt = b) (z : Int32) (k : Int) (e_z : z.toInt = k) : Met l yX0_become wsX0_become rmX0_become (va_Pc [.ref g, .int x, .int y, .int z] (zPre G (fun H => GA G H g d))) (zV (fun H => GA G H g (upd (upd (upd d.1 0 x) 1 y) 2 z, d.2)) (iv g 4)) 0 0 (iv g 4) := by
  refine z_ofW (cc := cX0_become) (maxL := 4) (ret := none) (by decide +kernel) rfl (Nat.le_of_ble_eq_true rfl) ?_
  intro p e s m below meth c hx hb hml hr hts hown hlocks hK hP ls hl
  have hG := hP
  have hown : s.vm.findClass RX0 = some m.cls := hown
  have hl : lv_has ls 4 [(0, .ref g), (1, .int x), (2, .int y), (3, .int z)] := hl
  have hS : va_S (iv g 4) s.heap s.heap [] := va_S.rf
  refine lv_aload_n hx hb dX0_become_0 rfl (lv_at hl 0 rfl) ?_
  refine lv_iload_n hx hb dX0_become_1 rfl (lv_at hl 1 rfl) ?_
  refine z_putG hx hb hts iwX0_become_0 hown hK hG hS (by simp only [iv]; omega) 0 (by decide) flX0_become_39 rfl rfl (ty := .int) rfl rfl rfl dX0_become_2 (fun H locs hG hsz hq hS => ?_)
  have hG : GA G H g (upd d.1 0 x, d.2.1, d.2.2.1, d.2.2.2) := hG
  refine lv_aload_n hx hb dX0_become_5 rfl (lv_at hl 0 rfl) ?_
  refine lv_iload_n hx hb dX0_become_6 rfl (lv_at hl 2 rfl) ?_
  refine z_putG hx hb hts iwX0_become_0 hown hK hG hS (by simp only [iv]; omega) 1 (by decide) flX0_become_42 rfl rfl (ty := .int) rfl rfl rfl dX0_become_7 (fun H locs hG hsz hq hS => ?_)
  have hG : GA G H g (upd (upd d.1 0 x) 1 y, d.2.1, d.2.2.1, d.2.2.2) := hG
  refine lv_aload_n hx hb dX0_become_10 rfl (lv_at hl 0 rfl) ?_
  refine lv_iload_n hx hb dX0_become_11 rfl (lv_at hl 3 rfl) ?_
  refine z_putG hx hb hts iwX0_become_0 hown hK hG hS (by simp only [iv]; omega) 2 (by decide) flX0_become_45 rfl rfl (ty := .int) rfl rfl rfl dX0_become_12 (fun H locs hG hsz hq hS => ?_)
  have hG : GA G H g (upd (upd (upd d.1 0 x) 1 y) 2 z, d.2.1, d.2.2.1, d.2.2.2) := hG
  exact z_rv hx hb hr hlocks (by first | exact hG) hS dX0_become_15

abbrev rmX3_become : Room := { frames := 0, cells := 0, slots := 0, locals := 0 }
theorem iwX3_become_3 : ∀ w ∈ wsX30, w ∈ wsX3_become := fun _ h => List.mem_cons_of_mem _ (List.mem_append_right _ h)
theorem flX3_become_13 : Cond.fieldLink RX3 13 "SiltedFloats$Wave" "amplitude" "I" ∈ wsX3_become := by decide +kernel
theorem flX3_become_17 : Cond.fieldLink RX3 17 "SiltedFloats$Wave" "period" "I" ∈ wsX3_become := by decide +kernel
theorem flX3_become_20 : Cond.fieldLink RX3 20 "SiltedFloats$Wave" "phase" "I" ∈ wsX3_become := by decide +kernel
theorem hyX3_become : yX3_become.cls = RX3 ∧ yX3_become.cls ≠ "java/lang/invoke/MethodHandle" ∧ yX3_become.cls ≠ "java/lang/invoke/VarHandle" ∧ (parseMethodDescriptor yX3_become.desc).map (fun d => d.parameters.length) = some 3 := by decide +kernel
set_option maxHeartbeats 4000000 in
set_option maxRecDepth 100000 in
theorem kX3_become (l : Launch) (G : xG) (w : Nat) (v0 : Nat → Int32) (x : Int32) (a : Int) (e_x : x.toInt = a) (y : Int32) (b : Int) (e_y : y.toInt = b) (z : Int32) (k : Int) (e_z : z.toInt = k) : Met l yX3_become wsX3_become rmX3_become (va_Pc [.ref w, .int x, .int y, .int z] (zPre G (fun H => WV G H w v0))) (zV (fun H => WV G H w (upd (upd (upd v0 0 x) 1 y) 2 z)) (iv w 1)) 0 0 (iv w 1) := by
  refine z_ofW (cc := cX3_become) (maxL := 4) (ret := none) (by decide +kernel) rfl (Nat.le_of_ble_eq_true rfl) ?_
  intro p e s m below meth c hx hb hml hr hts hown hlocks hK hP ls hl
  have hV := hP
  have hown : s.vm.findClass RX3 = some m.cls := hown
  have hl : lv_has ls 4 [(0, .ref w), (1, .int x), (2, .int y), (3, .int z)] := hl
  have hS : va_S (iv w 1) s.heap s.heap [] := va_S.rf
  refine lv_aload_n hx hb dX3_become_0 rfl (lv_at hl 0 rfl) ?_
  refine lv_iload_n hx hb dX3_become_1 rfl (lv_at hl 1 rfl) ?_
  refine z_putW hx hb hts iwX3_become_3 hown hK hV hS (by simp only [iv]; omega) 0 (by decide) flX3_become_13 rfl rfl (ty := .int) rfl rfl rfl dX3_become_2 (fun H locs hV hsz hq hS => ?_)
  have hV : WV G H w (upd v0 0 x) := hV
  refine lv_aload_n hx hb dX3_become_5 rfl (lv_at hl 0 rfl) ?_
  refine lv_iload_n hx hb dX3_become_6 rfl (lv_at hl 2 rfl) ?_
  refine z_putW hx hb hts iwX3_become_3 hown hK hV hS (by simp only [iv]; omega) 1 (by decide) flX3_become_17 rfl rfl (ty := .int) rfl rfl rfl dX3_become_7 (fun H locs hV hsz hq hS => ?_)
  have hV : WV G H w (upd (upd v0 0 x) 1 y) := hV
  refine lv_aload_n hx hb dX3_become_10 rfl (lv_at hl 0 rfl) ?_
  refine lv_iload_n hx hb dX3_become_11 rfl (lv_at hl 3 rfl) ?_
  refine z_putW hx hb hts iwX3_become_3 hown hK hV hS (by simp only [iv]; omega) 2 (by decide) flX3_become_20 rfl rfl (ty := .int) rfl rfl rfl dX3_become_12 (fun H locs hV hsz hq hS => ?_)
  have hV : WV G H w (upd (upd (upd v0 0 x) 1 y) 2 z) := hV
  exact z_rv hx hb hr hlocks (by first | exact hV) hS dX3_become_15

abbrev rmX0_passHour : Room := { frames := 1, cells := 0, slots := 0, locals := 22 }
theorem iwX0_passHour_0 : ∀ w ∈ wsX00, w ∈ wsX0_passHour := fun _ h => List.mem_cons_of_mem _ (List.mem_append_right _ h)
theorem flX0_passHour_15 : Cond.fieldLink RX0 15 "SiltedFloats$Gauge" "on" "Z" ∈ wsX0_passHour := by decide +kernel
theorem flX0_passHour_23 : Cond.fieldLink RX0 23 "SiltedFloats$Gauge" "kinds" "[I" ∈ wsX0_passHour := by decide +kernel
theorem flX0_passHour_33 : Cond.fieldLink RX0 33 "SiltedFloats$Gauge" "values" "[I" ∈ wsX0_passHour := by decide +kernel
theorem flX0_passHour_36 : Cond.fieldLink RX0 36 "SiltedFloats$Gauge" "corrections" "[I" ∈ wsX0_passHour := by decide +kernel
theorem flX0_passHour_48 : Cond.fieldLink RX0 48 "SiltedFloats$Gauge" "floatLevel" "I" ∈ wsX0_passHour := by decide +kernel
theorem flX0_passHour_51 : Cond.fieldLink RX0 51 "SiltedFloats$Gauge" "silt" "I" ∈ wsX0_passHour := by decide +kernel
theorem flX0_passHour_54 : Cond.fieldLink RX0 54 "SiltedFloats$Gauge" "silting" "I" ∈ wsX0_passHour := by decide +kernel
theorem flX0_passHour_57 : Cond.fieldLink RX0 57 "SiltedFloats$Gauge" "sinking" "I" ∈ wsX0_passHour := by decide +kernel
theorem flX0_passHour_60 : Cond.fieldLink RX0 60 "SiltedFloats$Gauge" "sunk" "I" ∈ wsX0_passHour := by decide +kernel
theorem flX0_passHour_63 : Cond.fieldLink RX0 63 "SiltedFloats$Gauge" "lastNote" "I" ∈ wsX0_passHour := by decide +kernel
theorem hyX0_passHour : yX0_passHour.cls = RX0 ∧ yX0_passHour.cls ≠ "java/lang/invoke/MethodHandle" ∧ yX0_passHour.cls ≠ "java/lang/invoke/VarHandle" ∧ (parseMethodDescriptor yX0_passHour.desc).map (fun d => d.parameters.length) = some 2 := by decide +kernel
set_option maxHeartbeats 4000000 in
set_option maxRecDepth 100000 in
theorem kX0_passHour (l : Launch) (G : xG) (g : Nat) (d : GD) (x : Int32) (h : Int) (e_x : x.toInt = h) (y : Int32) (w : Int) (e_y : y.toInt = w) (hh : 0 ≤ h ∧ h < 120) (hw : -50000 ≤ w ∧ w ≤ 50000) (hf : -50000 ≤ (d.1 3).toInt ∧ (d.1 3).toInt ≤ 50000) (hs : 0 ≤ (d.1 4).toInt ∧ (d.1 4).toInt ≤ 90) (hk : 0 ≤ (d.1 7).toInt ∧ (d.1 7).toInt ≤ 1000) : Met l yX0_passHour wsX0_passHour rmX0_passHour (va_Pc [.ref g, .int x, .int y] (zPre G (fun H => GA G H g d))) (zV (fun H => GA G H g (phG d h w)) (iv g 4)) 0 0 (iv g 4) := by
  refine z_ofW (cc := cX0_passHour) (maxL := 3) (ret := none) (by decide +kernel) rfl (Nat.le_of_ble_eq_true rfl) ?_
  intro p e s m below meth c hx hb hml hr hts hown hlocks hK hP ls hl
  have hG := hP
  have hown : s.vm.findClass RX0 = some m.cls := hown
  have hl : lv_has ls 3 [(0, .ref g), (1, .int x), (2, .int y)] := hl
  have hS : va_S (iv g 4) s.heap s.heap [] := va_S.rf
  have hmb := mul_b (a := w - (d.1 3).toInt) (b := 100 - (d.1 4).toInt) (A := 100000) (B := 100) (by omega) (by omega)
  refine lv_aload_n hx hb dX0_passHour_0 rfl (lv_at hl 0 rfl) ?_
  refine lv_dup hx hb dX0_passHour_1 rfl ?_
  refine z_get hx hb hts iwX0_passHour_0 hown hK hG.1 rfl 3 (by decide) flX0_passHour_48 rfl (v := .int (d.1 3)) rfl dX0_passHour_2 ?_
  refine lv_iload_n hx hb dX0_passHour_5 rfl (lv_at hl 2 rfl) ?_
  refine lv_aload_n hx hb dX0_passHour_6 rfl (lv_at hl 0 rfl) ?_
  refine z_get hx hb hts iwX0_passHour_0 hown hK hG.1 rfl 3 (by decide) flX0_passHour_48 rfl (v := .int (d.1 3)) rfl dX0_passHour_7 ?_
  refine z_isub hx hb e_y rfl dX0_passHour_10 (by omega) (fun z1 e1 => ?_)
  refine lv_bipush (v := (100 : Int32)) hx hb dX0_passHour_11 (by decide) ?_
  refine lv_aload_n hx hb dX0_passHour_13 rfl (lv_at hl 0 rfl) ?_
  refine z_get hx hb hts iwX0_passHour_0 hown hK hG.1 rfl 4 (by decide) flX0_passHour_51 rfl (v := .int (d.1 4)) rfl dX0_passHour_14 ?_
  refine z_isub hx hb kI_100 rfl dX0_passHour_17 (by omega) (fun z2 e2 => ?_)
  refine z_imul hx hb e1 e2 dX0_passHour_18 (by omega) (fun z3 e3 => ?_)
  refine lv_bipush (v := (100 : Int32)) hx hb dX0_passHour_19 (by decide) ?_
  refine z_cS (As := [.int z3, .int (100 : Int32)]) (rest := [.int (d.1 3), .ref g]) ⟨hx, hb, hml, hown, hts⟩ (kJ9_floorDiv_7cf53 l G z3 ((w - ((d.1 3).toInt)) * ((100 : Int) - ((d.1 4).toInt))) e3 (100 : Int32) (100 : Int) kI_100 (by first | assumption | omega)) (va_cwS 2 hts gX0_passHour_J9_floorDiv_7cf53 rfl rfl rfl hyJ9_floorDiv_7cf53 ⟨Nat.le_of_ble_eq_true rfl, Nat.le_of_ble_eq_true rfl⟩) hK trivial rfl hl.1 rfl (Nat.le_of_ble_eq_true rfl) dX0_passHour_21 ⟨Nat.zero_le _, Nat.zero_le _⟩ (fun z4 e4 => ?_)
  have e4 : z4.toInt = ((w - ((d.1 3).toInt)) * ((100 : Int) - ((d.1 4).toInt))) / (100 : Int) := e4
  refine z_iadd hx hb rfl e4 dX0_passHour_24 (by omega) (fun z5 e5 => ?_)
  refine z_putG hx hb hts iwX0_passHour_0 hown hK hG hS (by simp only [iv]; omega) 3 (by decide) flX0_passHour_48 rfl rfl (ty := .int) rfl rfl rfl dX0_passHour_25 (fun H locs hG hsz hq hS => ?_)
  have hG : GA G H g (upd d.1 3 z5, d.2.1, d.2.2.1, d.2.2.2) := hG
  refine lv_iload_n hx hb dX0_passHour_28 rfl (lv_at hl 1 rfl) ?_
  refine z_if_lt (tgt := 92) hx hb e_x dX0_passHour_29 (by decide) (fun c_6 => ?_) (fun c_6 => ?_)
  · omega
  · refine lv_iload_n hx hb dX0_passHour_32 rfl (lv_at hl 1 rfl) ?_
    refine lv_bipush (v := (120 : Int32)) hx hb dX0_passHour_33 (by decide) ?_
    refine z_icmp_ge (tgt := 92) hx hb e_x kI_120 dX0_passHour_35 (by decide) (fun c_7 => ?_) (fun c_7 => ?_)
    · omega
    · refine lv_aload_n hx hb dX0_passHour_38 rfl (lv_at hl 0 rfl) ?_
      refine z_get hx hb hts iwX0_passHour_0 hown hK hG.1 rfl 12 (by decide) flX0_passHour_23 rfl (v := .ref (g + 1)) rfl dX0_passHour_39 ?_
      refine lv_iload_n hx hb dX0_passHour_42 rfl (lv_at hl 1 rfl) ?_
      refine lv_aload_n hx hb dX0_passHour_43 rfl (lv_at hl 0 rfl) ?_
      refine z_get hx hb hts iwX0_passHour_0 hown hK hG.1 rfl 8 (by decide) flX0_passHour_15 rfl (v := .int (d.1 8)) rfl dX0_passHour_44 ?_
      refine z_if_eq (tgt := 54) hx hb rfl dX0_passHour_47 (by decide) (fun c_8 => ?_) (fun c_8 => ?_)
      · refine lv_iconst (v := (1 : Int32)) hx hb dX0_passHour_54 (by decide) ?_
        refine z_iastK hx hb hK hG hS (by simp only [iv]; omega) e_x (by omega) dX0_passHour_55 (fun H locs hG hsz hq hS => ?_)
        have hG : GA G H g (upd d.1 3 z5, upd d.2.1 h.toNat (1 : Int32), d.2.2.1, d.2.2.2) := hG
        refine lv_aload_n hx hb dX0_passHour_56 rfl (lv_at hl 0 rfl) ?_
        refine z_get hx hb hts iwX0_passHour_0 hown hK hG.1 rfl 13 (by decide) flX0_passHour_33 rfl (v := .ref (g + 2)) rfl dX0_passHour_57 ?_
        refine lv_iload_n hx hb dX0_passHour_60 rfl (lv_at hl 1 rfl) ?_
        refine lv_aload_n hx hb dX0_passHour_61 rfl (lv_at hl 0 rfl) ?_
        refine z_get hx hb hts iwX0_passHour_0 hown hK hG.1 rfl 8 (by decide) flX0_passHour_15 rfl (v := .int (d.1 8)) rfl dX0_passHour_62 ?_
        refine z_if_eq (tgt := 80) hx hb rfl dX0_passHour_65 (by decide) (fun c_9 => ?_) (fun c_9 => ?_)
        · refine lv_iconst (v := (0 : Int32)) hx hb dX0_passHour_80 (by decide) ?_
          refine z_iastV hx hb hK hG hS (by simp only [iv]; omega) e_x (by omega) dX0_passHour_81 (fun H locs hG hsz hq hS => ?_)
          have hG : GA G H g (upd d.1 3 z5, upd d.2.1 h.toNat (1 : Int32), upd d.2.2.1 h.toNat (0 : Int32), d.2.2.2) := hG
          refine lv_aload_n hx hb dX0_passHour_82 rfl (lv_at hl 0 rfl) ?_
          refine z_get hx hb hts iwX0_passHour_0 hown hK hG.1 rfl 14 (by decide) flX0_passHour_36 rfl (v := .ref (g + 3)) rfl dX0_passHour_83 ?_
          refine lv_iload_n hx hb dX0_passHour_86 rfl (lv_at hl 1 rfl) ?_
          refine lv_aload_n hx hb dX0_passHour_87 rfl (lv_at hl 0 rfl) ?_
          refine z_get hx hb hts iwX0_passHour_0 hown hK hG.1 rfl 10 (by decide) flX0_passHour_63 rfl (v := .int (d.1 10)) rfl dX0_passHour_88 ?_
          refine z_iastC hx hb hK hG hS (by simp only [iv]; omega) e_x (by omega) dX0_passHour_91 (fun H locs hG hsz hq hS => ?_)
          have hG : GA G H g (upd d.1 3 z5, upd d.2.1 h.toNat (1 : Int32), upd d.2.2.1 h.toNat (0 : Int32), upd d.2.2.2 h.toNat (d.1 10)) := hG
          refine lv_aload_n hx hb dX0_passHour_92 rfl (lv_at hl 0 rfl) ?_
          refine z_get hx hb hts iwX0_passHour_0 hown hK hG.1 rfl 5 (by decide) flX0_passHour_54 rfl (v := .int (d.1 5)) rfl dX0_passHour_93 ?_
          refine lv_iload_n hx hb dX0_passHour_96 rfl (lv_at hl 1 rfl) ?_
          refine z_cS (As := [.int (d.1 5), .int x]) (rest := []) ⟨hx, hb, hml, hown, hts⟩ (kX0_isDue l G (d.1 5) ((d.1 5).toInt) rfl x h e_x (by first | assumption | omega)) (va_cwS 2 hts gX0_passHour_X0_isDue rfl rfl rfl hyX0_isDue ⟨Nat.le_of_ble_eq_true rfl, Nat.le_of_ble_eq_true rfl⟩) hK trivial rfl hl.1 rfl (Nat.le_of_ble_eq_true rfl) dX0_passHour_97 ⟨Nat.zero_le _, Nat.zero_le _⟩ (fun z10 e10 => ?_)
          have e10 : isB z10 (0 < ((d.1 5).toInt) ∧ (h + 1) % ((d.1 5).toInt) = 0) := e10
          refine z_ifb_eq (tgt := 122) hx hb e10 dX0_passHour_100 (by decide) (fun c_11 => ?_) (fun c_11 => ?_)
          · have hs4 := siltN_f1 c_11
            refine lv_aload_n hx hb dX0_passHour_122 rfl (lv_at hl 0 rfl) ?_
            refine z_get hx hb hts iwX0_passHour_0 hown hK hG.1 rfl 6 (by decide) flX0_passHour_57 rfl (v := .int (d.1 6)) rfl dX0_passHour_123 ?_
            refine lv_iload_n hx hb dX0_passHour_126 rfl (lv_at hl 1 rfl) ?_
            refine z_cS (As := [.int (d.1 6), .int x]) (rest := []) ⟨hx, hb, hml, hown, hts⟩ (kX0_isDue l G (d.1 6) ((d.1 6).toInt) rfl x h e_x (by first | assumption | omega)) (va_cwS 2 hts gX0_passHour_X0_isDue rfl rfl rfl hyX0_isDue ⟨Nat.le_of_ble_eq_true rfl, Nat.le_of_ble_eq_true rfl⟩) hK trivial rfl hl.1 rfl (Nat.le_of_ble_eq_true rfl) dX0_passHour_127 ⟨Nat.zero_le _, Nat.zero_le _⟩ (fun z12 e12 => ?_)
            have e12 : isB z12 (0 < ((d.1 6).toInt) ∧ (h + 1) % ((d.1 6).toInt) = 0) := e12
            refine z_ifb_eq (tgt := 143) hx hb e12 dX0_passHour_130 (by decide) (fun c_13 => ?_) (fun c_13 => ?_)
            · have hs7 := sunkN_f c_13
              exact z_rv hx hb hr hlocks (hG.to (phG_eq e5 hs4.symm hs7.symm (fun k h1 h2 h3 => by simp [upd, h1, h2, h3]) (by rw [if_pos (by assumption)]) (by rw [if_pos (by assumption)]) rfl)) hS dX0_passHour_143
            · have hs7 := sunkN_t c_13
              refine lv_aload_n hx hb dX0_passHour_133 rfl (lv_at hl 0 rfl) ?_
              refine lv_dup hx hb dX0_passHour_134 rfl ?_
              refine z_get hx hb hts iwX0_passHour_0 hown hK hG.1 rfl 7 (by decide) flX0_passHour_60 rfl (v := .int (d.1 7)) rfl dX0_passHour_135 ?_
              refine lv_iconst (v := (1 : Int32)) hx hb dX0_passHour_138 (by decide) ?_
              refine z_iadd hx hb rfl kI_1 dX0_passHour_139 (by omega) (fun z14 e14 => ?_)
              refine z_putG hx hb hts iwX0_passHour_0 hown hK hG hS (by simp only [iv]; omega) 7 (by decide) flX0_passHour_60 rfl rfl (ty := .int) rfl rfl rfl dX0_passHour_140 (fun H locs hG hsz hq hS => ?_)
              have hG : GA G H g (upd (upd d.1 3 z5) 7 z14, upd d.2.1 h.toNat (1 : Int32), upd d.2.2.1 h.toNat (0 : Int32), upd d.2.2.2 h.toNat (d.1 10)) := hG
              exact z_rv hx hb hr hlocks (hG.to (phG_eq e5 hs4.symm (e14.trans hs7.symm) (fun k h1 h2 h3 => by simp [upd, h1, h2, h3]) (by rw [if_pos (by assumption)]) (by rw [if_pos (by assumption)]) rfl)) hS dX0_passHour_143
          · have hA := c_11
            refine lv_aload_n hx hb dX0_passHour_103 rfl (lv_at hl 0 rfl) ?_
            refine z_get hx hb hts iwX0_passHour_0 hown hK hG.1 rfl 4 (by decide) flX0_passHour_51 rfl (v := .int (d.1 4)) rfl dX0_passHour_104 ?_
            refine lv_bipush (v := (90 : Int32)) hx hb dX0_passHour_107 (by decide) ?_
            refine z_icmp_ge (tgt := 122) hx hb rfl kI_90 dX0_passHour_109 (by decide) (fun c_15 => ?_) (fun c_15 => ?_)
            · have hs4 := siltN_f2 (h := h) c_15
              refine lv_aload_n hx hb dX0_passHour_122 rfl (lv_at hl 0 rfl) ?_
              refine z_get hx hb hts iwX0_passHour_0 hown hK hG.1 rfl 6 (by decide) flX0_passHour_57 rfl (v := .int (d.1 6)) rfl dX0_passHour_123 ?_
              refine lv_iload_n hx hb dX0_passHour_126 rfl (lv_at hl 1 rfl) ?_
              refine z_cS (As := [.int (d.1 6), .int x]) (rest := []) ⟨hx, hb, hml, hown, hts⟩ (kX0_isDue l G (d.1 6) ((d.1 6).toInt) rfl x h e_x (by first | assumption | omega)) (va_cwS 2 hts gX0_passHour_X0_isDue rfl rfl rfl hyX0_isDue ⟨Nat.le_of_ble_eq_true rfl, Nat.le_of_ble_eq_true rfl⟩) hK trivial rfl hl.1 rfl (Nat.le_of_ble_eq_true rfl) dX0_passHour_127 ⟨Nat.zero_le _, Nat.zero_le _⟩ (fun z16 e16 => ?_)
              have e16 : isB z16 (0 < ((d.1 6).toInt) ∧ (h + 1) % ((d.1 6).toInt) = 0) := e16
              refine z_ifb_eq (tgt := 143) hx hb e16 dX0_passHour_130 (by decide) (fun c_17 => ?_) (fun c_17 => ?_)
              · have hs7 := sunkN_f c_17
                exact z_rv hx hb hr hlocks (hG.to (phG_eq e5 hs4.symm hs7.symm (fun k h1 h2 h3 => by simp [upd, h1, h2, h3]) (by rw [if_pos (by assumption)]) (by rw [if_pos (by assumption)]) rfl)) hS dX0_passHour_143
              · have hs7 := sunkN_t c_17
                refine lv_aload_n hx hb dX0_passHour_133 rfl (lv_at hl 0 rfl) ?_
                refine lv_dup hx hb dX0_passHour_134 rfl ?_
                refine z_get hx hb hts iwX0_passHour_0 hown hK hG.1 rfl 7 (by decide) flX0_passHour_60 rfl (v := .int (d.1 7)) rfl dX0_passHour_135 ?_
                refine lv_iconst (v := (1 : Int32)) hx hb dX0_passHour_138 (by decide) ?_
                refine z_iadd hx hb rfl kI_1 dX0_passHour_139 (by omega) (fun z18 e18 => ?_)
                refine z_putG hx hb hts iwX0_passHour_0 hown hK hG hS (by simp only [iv]; omega) 7 (by decide) flX0_passHour_60 rfl rfl (ty := .int) rfl rfl rfl dX0_passHour_140 (fun H locs hG hsz hq hS => ?_)
                have hG : GA G H g (upd (upd d.1 3 z5) 7 z18, upd d.2.1 h.toNat (1 : Int32), upd d.2.2.1 h.toNat (0 : Int32), upd d.2.2.2 h.toNat (d.1 10)) := hG
                exact z_rv hx hb hr hlocks (hG.to (phG_eq e5 hs4.symm (e18.trans hs7.symm) (fun k h1 h2 h3 => by simp [upd, h1, h2, h3]) (by rw [if_pos (by assumption)]) (by rw [if_pos (by assumption)]) rfl)) hS dX0_passHour_143
            · have hs4 := siltN_t hA c_15
              refine lv_aload_n hx hb dX0_passHour_112 rfl (lv_at hl 0 rfl) ?_
              refine lv_dup hx hb dX0_passHour_113 rfl ?_
              refine z_get hx hb hts iwX0_passHour_0 hown hK hG.1 rfl 4 (by decide) flX0_passHour_51 rfl (v := .int (d.1 4)) rfl dX0_passHour_114 ?_
              refine lv_iconst (v := (1 : Int32)) hx hb dX0_passHour_117 (by decide) ?_
              refine z_iadd hx hb rfl kI_1 dX0_passHour_118 (by omega) (fun z19 e19 => ?_)
              refine z_putG hx hb hts iwX0_passHour_0 hown hK hG hS (by simp only [iv]; omega) 4 (by decide) flX0_passHour_51 rfl rfl (ty := .int) rfl rfl rfl dX0_passHour_119 (fun H locs hG hsz hq hS => ?_)
              have hG : GA G H g (upd (upd d.1 3 z5) 4 z19, upd d.2.1 h.toNat (1 : Int32), upd d.2.2.1 h.toNat (0 : Int32), upd d.2.2.2 h.toNat (d.1 10)) := hG
              refine lv_aload_n hx hb dX0_passHour_122 rfl (lv_at hl 0 rfl) ?_
              refine z_get hx hb hts iwX0_passHour_0 hown hK hG.1 rfl 6 (by decide) flX0_passHour_57 rfl (v := .int (d.1 6)) rfl dX0_passHour_123 ?_
              refine lv_iload_n hx hb dX0_passHour_126 rfl (lv_at hl 1 rfl) ?_
              refine z_cS (As := [.int (d.1 6), .int x]) (rest := []) ⟨hx, hb, hml, hown, hts⟩ (kX0_isDue l G (d.1 6) ((d.1 6).toInt) rfl x h e_x (by first | assumption | omega)) (va_cwS 2 hts gX0_passHour_X0_isDue rfl rfl rfl hyX0_isDue ⟨Nat.le_of_ble_eq_true rfl, Nat.le_of_ble_eq_true rfl⟩) hK trivial rfl hl.1 rfl (Nat.le_of_ble_eq_true rfl) dX0_passHour_127 ⟨Nat.zero_le _, Nat.zero_le _⟩ (fun z20 e20 => ?_)
              have e20 : isB z20 (0 < ((d.1 6).toInt) ∧ (h + 1) % ((d.1 6).toInt) = 0) := e20
              refine z_ifb_eq (tgt := 143) hx hb e20 dX0_passHour_130 (by decide) (fun c_21 => ?_) (fun c_21 => ?_)
              · have hs7 := sunkN_f c_21
                exact z_rv hx hb hr hlocks (hG.to (phG_eq e5 (e19.trans hs4.symm) hs7.symm (fun k h1 h2 h3 => by simp [upd, h1, h2, h3]) (by rw [if_pos (by assumption)]) (by rw [if_pos (by assumption)]) rfl)) hS dX0_passHour_143
              · have hs7 := sunkN_t c_21
                refine lv_aload_n hx hb dX0_passHour_133 rfl (lv_at hl 0 rfl) ?_
                refine lv_dup hx hb dX0_passHour_134 rfl ?_
                refine z_get hx hb hts iwX0_passHour_0 hown hK hG.1 rfl 7 (by decide) flX0_passHour_60 rfl (v := .int (d.1 7)) rfl dX0_passHour_135 ?_
                refine lv_iconst (v := (1 : Int32)) hx hb dX0_passHour_138 (by decide) ?_
                refine z_iadd hx hb rfl kI_1 dX0_passHour_139 (by omega) (fun z22 e22 => ?_)
                refine z_putG hx hb hts iwX0_passHour_0 hown hK hG hS (by simp only [iv]; omega) 7 (by decide) flX0_passHour_60 rfl rfl (ty := .int) rfl rfl rfl dX0_passHour_140 (fun H locs hG hsz hq hS => ?_)
                have hG : GA G H g (upd (upd (upd d.1 3 z5) 4 z19) 7 z22, upd d.2.1 h.toNat (1 : Int32), upd d.2.2.1 h.toNat (0 : Int32), upd d.2.2.2 h.toNat (d.1 10)) := hG
                exact z_rv hx hb hr hlocks (hG.to (phG_eq e5 (e19.trans hs4.symm) (e22.trans hs7.symm) (fun k h1 h2 h3 => by simp [upd, h1, h2, h3]) (by rw [if_pos (by assumption)]) (by rw [if_pos (by assumption)]) rfl)) hS dX0_passHour_143
        · contradiction
      · refine lv_iconst (v := (0 : Int32)) hx hb dX0_passHour_50 (by decide) ?_
        refine lv_goto (tgt := 55) hx hb dX0_passHour_51 (by decide) ?_
        refine z_iastK hx hb hK hG hS (by simp only [iv]; omega) e_x (by omega) dX0_passHour_55 (fun H locs hG hsz hq hS => ?_)
        have hG : GA G H g (upd d.1 3 z5, upd d.2.1 h.toNat (0 : Int32), d.2.2.1, d.2.2.2) := hG
        refine lv_aload_n hx hb dX0_passHour_56 rfl (lv_at hl 0 rfl) ?_
        refine z_get hx hb hts iwX0_passHour_0 hown hK hG.1 rfl 13 (by decide) flX0_passHour_33 rfl (v := .ref (g + 2)) rfl dX0_passHour_57 ?_
        refine lv_iload_n hx hb dX0_passHour_60 rfl (lv_at hl 1 rfl) ?_
        refine lv_aload_n hx hb dX0_passHour_61 rfl (lv_at hl 0 rfl) ?_
        refine z_get hx hb hts iwX0_passHour_0 hown hK hG.1 rfl 8 (by decide) flX0_passHour_15 rfl (v := .int (d.1 8)) rfl dX0_passHour_62 ?_
        refine z_if_eq (tgt := 80) hx hb rfl dX0_passHour_65 (by decide) (fun c_23 => ?_) (fun c_23 => ?_)
        · contradiction
        · refine lv_aload_n hx hb dX0_passHour_68 rfl (lv_at hl 0 rfl) ?_
          refine z_get hx hb hts iwX0_passHour_0 hown hK hG.1 rfl 3 (by decide) flX0_passHour_48 rfl (v := .int z5) rfl dX0_passHour_69 ?_
          refine lv_aload_n hx hb dX0_passHour_72 rfl (lv_at hl 0 rfl) ?_
          refine z_get hx hb hts iwX0_passHour_0 hown hK hG.1 rfl 7 (by decide) flX0_passHour_60 rfl (v := .int (d.1 7)) rfl dX0_passHour_73 ?_
          refine z_iadd hx hb e5 rfl dX0_passHour_76 (by omega) (fun z24 e24 => ?_)
          refine lv_goto (tgt := 81) hx hb dX0_passHour_77 (by decide) ?_
          refine z_iastV hx hb hK hG hS (by simp only [iv]; omega) e_x (by omega) dX0_passHour_81 (fun H locs hG hsz hq hS => ?_)
          have hG : GA G H g (upd d.1 3 z5, upd d.2.1 h.toNat (0 : Int32), upd d.2.2.1 h.toNat z24, d.2.2.2) := hG
          refine lv_aload_n hx hb dX0_passHour_82 rfl (lv_at hl 0 rfl) ?_
          refine z_get hx hb hts iwX0_passHour_0 hown hK hG.1 rfl 14 (by decide) flX0_passHour_36 rfl (v := .ref (g + 3)) rfl dX0_passHour_83 ?_
          refine lv_iload_n hx hb dX0_passHour_86 rfl (lv_at hl 1 rfl) ?_
          refine lv_aload_n hx hb dX0_passHour_87 rfl (lv_at hl 0 rfl) ?_
          refine z_get hx hb hts iwX0_passHour_0 hown hK hG.1 rfl 10 (by decide) flX0_passHour_63 rfl (v := .int (d.1 10)) rfl dX0_passHour_88 ?_
          refine z_iastC hx hb hK hG hS (by simp only [iv]; omega) e_x (by omega) dX0_passHour_91 (fun H locs hG hsz hq hS => ?_)
          have hG : GA G H g (upd d.1 3 z5, upd d.2.1 h.toNat (0 : Int32), upd d.2.2.1 h.toNat z24, upd d.2.2.2 h.toNat (d.1 10)) := hG
          refine lv_aload_n hx hb dX0_passHour_92 rfl (lv_at hl 0 rfl) ?_
          refine z_get hx hb hts iwX0_passHour_0 hown hK hG.1 rfl 5 (by decide) flX0_passHour_54 rfl (v := .int (d.1 5)) rfl dX0_passHour_93 ?_
          refine lv_iload_n hx hb dX0_passHour_96 rfl (lv_at hl 1 rfl) ?_
          refine z_cS (As := [.int (d.1 5), .int x]) (rest := []) ⟨hx, hb, hml, hown, hts⟩ (kX0_isDue l G (d.1 5) ((d.1 5).toInt) rfl x h e_x (by first | assumption | omega)) (va_cwS 2 hts gX0_passHour_X0_isDue rfl rfl rfl hyX0_isDue ⟨Nat.le_of_ble_eq_true rfl, Nat.le_of_ble_eq_true rfl⟩) hK trivial rfl hl.1 rfl (Nat.le_of_ble_eq_true rfl) dX0_passHour_97 ⟨Nat.zero_le _, Nat.zero_le _⟩ (fun z25 e25 => ?_)
          have e25 : isB z25 (0 < ((d.1 5).toInt) ∧ (h + 1) % ((d.1 5).toInt) = 0) := e25
          refine z_ifb_eq (tgt := 122) hx hb e25 dX0_passHour_100 (by decide) (fun c_26 => ?_) (fun c_26 => ?_)
          · have hs4 := siltN_f1 c_26
            refine lv_aload_n hx hb dX0_passHour_122 rfl (lv_at hl 0 rfl) ?_
            refine z_get hx hb hts iwX0_passHour_0 hown hK hG.1 rfl 6 (by decide) flX0_passHour_57 rfl (v := .int (d.1 6)) rfl dX0_passHour_123 ?_
            refine lv_iload_n hx hb dX0_passHour_126 rfl (lv_at hl 1 rfl) ?_
            refine z_cS (As := [.int (d.1 6), .int x]) (rest := []) ⟨hx, hb, hml, hown, hts⟩ (kX0_isDue l G (d.1 6) ((d.1 6).toInt) rfl x h e_x (by first | assumption | omega)) (va_cwS 2 hts gX0_passHour_X0_isDue rfl rfl rfl hyX0_isDue ⟨Nat.le_of_ble_eq_true rfl, Nat.le_of_ble_eq_true rfl⟩) hK trivial rfl hl.1 rfl (Nat.le_of_ble_eq_true rfl) dX0_passHour_127 ⟨Nat.zero_le _, Nat.zero_le _⟩ (fun z27 e27 => ?_)
            have e27 : isB z27 (0 < ((d.1 6).toInt) ∧ (h + 1) % ((d.1 6).toInt) = 0) := e27
            refine z_ifb_eq (tgt := 143) hx hb e27 dX0_passHour_130 (by decide) (fun c_28 => ?_) (fun c_28 => ?_)
            · have hs7 := sunkN_f c_28
              exact z_rv hx hb hr hlocks (hG.to (phG_eq e5 hs4.symm hs7.symm (fun k h1 h2 h3 => by simp [upd, h1, h2, h3]) (by rw [if_neg (by assumption)]) (by rw [if_neg (by assumption), ← (zi_eqOf e24 : z24 = Int32.ofInt (flN d w + (d.1 7).toInt))]) rfl)) hS dX0_passHour_143
            · have hs7 := sunkN_t c_28
              refine lv_aload_n hx hb dX0_passHour_133 rfl (lv_at hl 0 rfl) ?_
              refine lv_dup hx hb dX0_passHour_134 rfl ?_
              refine z_get hx hb hts iwX0_passHour_0 hown hK hG.1 rfl 7 (by decide) flX0_passHour_60 rfl (v := .int (d.1 7)) rfl dX0_passHour_135 ?_
              refine lv_iconst (v := (1 : Int32)) hx hb dX0_passHour_138 (by decide) ?_
              refine z_iadd hx hb rfl kI_1 dX0_passHour_139 (by omega) (fun z29 e29 => ?_)
              refine z_putG hx hb hts iwX0_passHour_0 hown hK hG hS (by simp only [iv]; omega) 7 (by decide) flX0_passHour_60 rfl rfl (ty := .int) rfl rfl rfl dX0_passHour_140 (fun H locs hG hsz hq hS => ?_)
              have hG : GA G H g (upd (upd d.1 3 z5) 7 z29, upd d.2.1 h.toNat (0 : Int32), upd d.2.2.1 h.toNat z24, upd d.2.2.2 h.toNat (d.1 10)) := hG
              exact z_rv hx hb hr hlocks (hG.to (phG_eq e5 hs4.symm (e29.trans hs7.symm) (fun k h1 h2 h3 => by simp [upd, h1, h2, h3]) (by rw [if_neg (by assumption)]) (by rw [if_neg (by assumption), ← (zi_eqOf e24 : z24 = Int32.ofInt (flN d w + (d.1 7).toInt))]) rfl)) hS dX0_passHour_143
          · have hA := c_26
            refine lv_aload_n hx hb dX0_passHour_103 rfl (lv_at hl 0 rfl) ?_
            refine z_get hx hb hts iwX0_passHour_0 hown hK hG.1 rfl 4 (by decide) flX0_passHour_51 rfl (v := .int (d.1 4)) rfl dX0_passHour_104 ?_
            refine lv_bipush (v := (90 : Int32)) hx hb dX0_passHour_107 (by decide) ?_
            refine z_icmp_ge (tgt := 122) hx hb rfl kI_90 dX0_passHour_109 (by decide) (fun c_30 => ?_) (fun c_30 => ?_)
            · have hs4 := siltN_f2 (h := h) c_30
              refine lv_aload_n hx hb dX0_passHour_122 rfl (lv_at hl 0 rfl) ?_
              refine z_get hx hb hts iwX0_passHour_0 hown hK hG.1 rfl 6 (by decide) flX0_passHour_57 rfl (v := .int (d.1 6)) rfl dX0_passHour_123 ?_
              refine lv_iload_n hx hb dX0_passHour_126 rfl (lv_at hl 1 rfl) ?_
              refine z_cS (As := [.int (d.1 6), .int x]) (rest := []) ⟨hx, hb, hml, hown, hts⟩ (kX0_isDue l G (d.1 6) ((d.1 6).toInt) rfl x h e_x (by first | assumption | omega)) (va_cwS 2 hts gX0_passHour_X0_isDue rfl rfl rfl hyX0_isDue ⟨Nat.le_of_ble_eq_true rfl, Nat.le_of_ble_eq_true rfl⟩) hK trivial rfl hl.1 rfl (Nat.le_of_ble_eq_true rfl) dX0_passHour_127 ⟨Nat.zero_le _, Nat.zero_le _⟩ (fun z31 e31 => ?_)
              have e31 : isB z31 (0 < ((d.1 6).toInt) ∧ (h + 1) % ((d.1 6).toInt) = 0) := e31
              refine z_ifb_eq (tgt := 143) hx hb e31 dX0_passHour_130 (by decide) (fun c_32 => ?_) (fun c_32 => ?_)
              · have hs7 := sunkN_f c_32
                exact z_rv hx hb hr hlocks (hG.to (phG_eq e5 hs4.symm hs7.symm (fun k h1 h2 h3 => by simp [upd, h1, h2, h3]) (by rw [if_neg (by assumption)]) (by rw [if_neg (by assumption), ← (zi_eqOf e24 : z24 = Int32.ofInt (flN d w + (d.1 7).toInt))]) rfl)) hS dX0_passHour_143
              · have hs7 := sunkN_t c_32
                refine lv_aload_n hx hb dX0_passHour_133 rfl (lv_at hl 0 rfl) ?_
                refine lv_dup hx hb dX0_passHour_134 rfl ?_
                refine z_get hx hb hts iwX0_passHour_0 hown hK hG.1 rfl 7 (by decide) flX0_passHour_60 rfl (v := .int (d.1 7)) rfl dX0_passHour_135 ?_
                refine lv_iconst (v := (1 : Int32)) hx hb dX0_passHour_138 (by decide) ?_
                refine z_iadd hx hb rfl kI_1 dX0_passHour_139 (by omega) (fun z33 e33 => ?_)
                refine z_putG hx hb hts iwX0_passHour_0 hown hK hG hS (by simp only [iv]; omega) 7 (by decide) flX0_passHour_60 rfl rfl (ty := .int) rfl rfl rfl dX0_passHour_140 (fun H locs hG hsz hq hS => ?_)
                have hG : GA G H g (upd (upd d.1 3 z5) 7 z33, upd d.2.1 h.toNat (0 : Int32), upd d.2.2.1 h.toNat z24, upd d.2.2.2 h.toNat (d.1 10)) := hG
                exact z_rv hx hb hr hlocks (hG.to (phG_eq e5 hs4.symm (e33.trans hs7.symm) (fun k h1 h2 h3 => by simp [upd, h1, h2, h3]) (by rw [if_neg (by assumption)]) (by rw [if_neg (by assumption), ← (zi_eqOf e24 : z24 = Int32.ofInt (flN d w + (d.1 7).toInt))]) rfl)) hS dX0_passHour_143
            · have hs4 := siltN_t hA c_30
              refine lv_aload_n hx hb dX0_passHour_112 rfl (lv_at hl 0 rfl) ?_
              refine lv_dup hx hb dX0_passHour_113 rfl ?_
              refine z_get hx hb hts iwX0_passHour_0 hown hK hG.1 rfl 4 (by decide) flX0_passHour_51 rfl (v := .int (d.1 4)) rfl dX0_passHour_114 ?_
              refine lv_iconst (v := (1 : Int32)) hx hb dX0_passHour_117 (by decide) ?_
              refine z_iadd hx hb rfl kI_1 dX0_passHour_118 (by omega) (fun z34 e34 => ?_)
              refine z_putG hx hb hts iwX0_passHour_0 hown hK hG hS (by simp only [iv]; omega) 4 (by decide) flX0_passHour_51 rfl rfl (ty := .int) rfl rfl rfl dX0_passHour_119 (fun H locs hG hsz hq hS => ?_)
              have hG : GA G H g (upd (upd d.1 3 z5) 4 z34, upd d.2.1 h.toNat (0 : Int32), upd d.2.2.1 h.toNat z24, upd d.2.2.2 h.toNat (d.1 10)) := hG
              refine lv_aload_n hx hb dX0_passHour_122 rfl (lv_at hl 0 rfl) ?_
              refine z_get hx hb hts iwX0_passHour_0 hown hK hG.1 rfl 6 (by decide) flX0_passHour_57 rfl (v := .int (d.1 6)) rfl dX0_passHour_123 ?_
              refine lv_iload_n hx hb dX0_passHour_126 rfl (lv_at hl 1 rfl) ?_
              refine z_cS (As := [.int (d.1 6), .int x]) (rest := []) ⟨hx, hb, hml, hown, hts⟩ (kX0_isDue l G (d.1 6) ((d.1 6).toInt) rfl x h e_x (by first | assumption | omega)) (va_cwS 2 hts gX0_passHour_X0_isDue rfl rfl rfl hyX0_isDue ⟨Nat.le_of_ble_eq_true rfl, Nat.le_of_ble_eq_true rfl⟩) hK trivial rfl hl.1 rfl (Nat.le_of_ble_eq_true rfl) dX0_passHour_127 ⟨Nat.zero_le _, Nat.zero_le _⟩ (fun z35 e35 => ?_)
              have e35 : isB z35 (0 < ((d.1 6).toInt) ∧ (h + 1) % ((d.1 6).toInt) = 0) := e35
              refine z_ifb_eq (tgt := 143) hx hb e35 dX0_passHour_130 (by decide) (fun c_36 => ?_) (fun c_36 => ?_)
              · have hs7 := sunkN_f c_36
                exact z_rv hx hb hr hlocks (hG.to (phG_eq e5 (e34.trans hs4.symm) hs7.symm (fun k h1 h2 h3 => by simp [upd, h1, h2, h3]) (by rw [if_neg (by assumption)]) (by rw [if_neg (by assumption), ← (zi_eqOf e24 : z24 = Int32.ofInt (flN d w + (d.1 7).toInt))]) rfl)) hS dX0_passHour_143
              · have hs7 := sunkN_t c_36
                refine lv_aload_n hx hb dX0_passHour_133 rfl (lv_at hl 0 rfl) ?_
                refine lv_dup hx hb dX0_passHour_134 rfl ?_
                refine z_get hx hb hts iwX0_passHour_0 hown hK hG.1 rfl 7 (by decide) flX0_passHour_60 rfl (v := .int (d.1 7)) rfl dX0_passHour_135 ?_
                refine lv_iconst (v := (1 : Int32)) hx hb dX0_passHour_138 (by decide) ?_
                refine z_iadd hx hb rfl kI_1 dX0_passHour_139 (by omega) (fun z37 e37 => ?_)
                refine z_putG hx hb hts iwX0_passHour_0 hown hK hG hS (by simp only [iv]; omega) 7 (by decide) flX0_passHour_60 rfl rfl (ty := .int) rfl rfl rfl dX0_passHour_140 (fun H locs hG hsz hq hS => ?_)
                have hG : GA G H g (upd (upd (upd d.1 3 z5) 4 z34) 7 z37, upd d.2.1 h.toNat (0 : Int32), upd d.2.2.1 h.toNat z24, upd d.2.2.2 h.toNat (d.1 10)) := hG
                exact z_rv hx hb hr hlocks (hG.to (phG_eq e5 (e34.trans hs4.symm) (e37.trans hs7.symm) (fun k h1 h2 h3 => by simp [upd, h1, h2, h3]) (by rw [if_neg (by assumption)]) (by rw [if_neg (by assumption), ← (zi_eqOf e24 : z24 = Int32.ofInt (flN d w + (d.1 7).toInt))]) rfl)) hS dX0_passHour_143

abbrev rmX0_noteAt : Room := { frames := 2, cells := 0, slots := 0, locals := 44 }
theorem iwX0_noteAt_0 : ∀ w ∈ wsX00, w ∈ wsX0_noteAt := fun _ h => List.mem_cons_of_mem _ (List.mem_append_right _ h)
theorem flX0_noteAt_19 : Cond.fieldLink RX0 19 "SiltedFloats$Gauge" "notes" "I" ∈ wsX0_noteAt := by decide +kernel
theorem flX0_noteAt_36 : Cond.fieldLink RX0 36 "SiltedFloats$Gauge" "corrections" "[I" ∈ wsX0_noteAt := by decide +kernel
theorem flX0_noteAt_60 : Cond.fieldLink RX0 60 "SiltedFloats$Gauge" "sunk" "I" ∈ wsX0_noteAt := by decide +kernel
theorem flX0_noteAt_63 : Cond.fieldLink RX0 63 "SiltedFloats$Gauge" "lastNote" "I" ∈ wsX0_noteAt := by decide +kernel
theorem flX0_noteAt_66 : Cond.fieldLink RX0 66 "SiltedFloats$Gauge" "lastNoteHour" "I" ∈ wsX0_noteAt := by decide +kernel
theorem mlX0_noteAt_89 : (Cond.methodLink RX0 89 Lib.Math.max.name ∈ wsX0_noteAt) ∧ (Cond.static Lib.Math.max.name ∈ wsX0_noteAt) ∧ (Cond.initialized "java/lang/Math" ∈ wsX0_noteAt) ∧ (Cond.code Lib.Math.max.name Lib.Math.max.code 2 (some .int) ∈ wsX0_noteAt) := by decide +kernel
theorem nlX0_noteAt_92 : (Cond.static yX4_shareOf ∈ wsX0_noteAt) ∧ (Cond.initialized yX4_shareOf.cls ∈ wsX0_noteAt) := by decide +kernel
theorem hyX0_noteAt : yX0_noteAt.cls = RX0 ∧ yX0_noteAt.cls ≠ "java/lang/invoke/MethodHandle" ∧ yX0_noteAt.cls ≠ "java/lang/invoke/VarHandle" ∧ (parseMethodDescriptor yX0_noteAt.desc).map (fun d => d.parameters.length) = some 1 := by decide +kernel
set_option maxHeartbeats 4000000 in
set_option maxRecDepth 100000 in
theorem kX0_noteAt (l : Launch) (G : xG) (g : Nat) (d : GD) (x : Int32) (h : Int) (e_x : x.toInt = h) (hh : 0 ≤ h ∧ h ≤ 120) (hk : 0 ≤ (d.1 7).toInt ∧ (d.1 7).toInt ≤ 1000) (hl9 : 0 ≤ (d.1 10).toInt ∧ (d.1 10).toInt ≤ 1000) (hm9 : 0 ≤ (d.1 11).toInt ∧ (d.1 11).toInt ≤ h) (hn9 : 0 ≤ (d.1 9).toInt ∧ (d.1 9).toInt ≤ 1000) : Met l yX0_noteAt wsX0_noteAt rmX0_noteAt (va_Pc [.ref g, .int x] (zPre G (fun H => GA G H g d))) (zV (fun H => GA G H g (ntG d x)) (iv g 4)) 0 0 (iv g 4) := by
  refine z_ofW (cc := cX0_noteAt) (maxL := 3) (ret := none) (by decide +kernel) rfl (Nat.le_of_ble_eq_true rfl) ?_
  intro p e s m below meth c hx hb hml hr hts hown hlocks hK hP ls hl
  have hG := hP
  have hown : s.vm.findClass RX0 = some m.cls := hown
  have hl : lv_has ls 3 [(0, .ref g), (1, .int x)] := hl
  have hS : va_S (iv g 4) s.heap s.heap [] := va_S.rf
  have cut18 : ∀ (n18 : Nat), ∀ (x2 : Int32) (i2 : Int) (_ : x2.toInt = i2), (h - i2).toNat < n18 → ((d.1 11).toInt ≤ i2 ∧ i2 ≤ h) → ((d.1 11).toInt ≠ h) → ∀ (H : Heap) (locs : List Loc), GA G H g (d.1, d.2.1, d.2.2.1, ntC d h i2) → va_S (iv g 4) s.heap H locs → ∀ ls : Array Slot, lv_has ls 3 [(0, .ref g), (1, .int x), (2, .int x2)] → W p l e rmX0_noteAt s m ([.ref g, .int x] : List Value).toArray below meth c H locs 0 0 (MQ below (zV (fun H => GA G H g (ntG d x)) (iv g 4)) ([.ref g, .int x] : List Value).toArray s 0 0 (iv g 4)) (F0 m 18 ls []) := by
    intro n18
    induction n18 with
    | zero =>
      intro x2 i2 hx2 hmu18 hi18_0 hi18_1 H locs hG hS ls hl
      exact absurd hmu18 (Nat.not_lt_zero _)
    | succ n18 ih18 =>
      intro x2 i2 hx2 hmu18 hi18_0 hi18_1 H locs hG hS ls hl
      have hmb := mul_b (a := (d.1 7).toInt - (d.1 10).toInt) (b := i2 - (d.1 11).toInt) (A := 1000) (B := 1000) (by omega) (by omega)
      have hsb := shZ_b (a := h - (d.1 11).toInt) hmb
      refine lv_iload_n hx hb dX0_noteAt_18 rfl (lv_at hl 2 rfl) ?_
      refine lv_iload_n hx hb dX0_noteAt_19 rfl (lv_at hl 1 rfl) ?_
      refine z_icmp_ge (tgt := 70) hx hb hx2 e_x dX0_noteAt_20 (by decide) (fun c_1 => ?_) (fun c_1 => ?_)
      · refine lv_aload_n hx hb dX0_noteAt_70 rfl (lv_at hl 0 rfl) ?_
        refine lv_aload_n hx hb dX0_noteAt_71 rfl (lv_at hl 0 rfl) ?_
        refine z_get hx hb hts iwX0_noteAt_0 hown hK hG.1 rfl 7 (by decide) flX0_noteAt_60 rfl (v := .int (d.1 7)) rfl dX0_noteAt_72 ?_
        refine z_putG hx hb hts iwX0_noteAt_0 hown hK hG hS (by simp only [iv]; omega) 10 (by decide) flX0_noteAt_63 rfl rfl (ty := .int) rfl rfl rfl dX0_noteAt_75 (fun H locs hG hsz hq hS => ?_)
        have hG : GA G H g (upd d.1 10 (d.1 7), d.2.1, d.2.2.1, ntC d h i2) := hG
        refine lv_aload_n hx hb dX0_noteAt_78 rfl (lv_at hl 0 rfl) ?_
        refine lv_iload_n hx hb dX0_noteAt_79 rfl (lv_at hl 1 rfl) ?_
        refine z_putG hx hb hts iwX0_noteAt_0 hown hK hG hS (by simp only [iv]; omega) 11 (by decide) flX0_noteAt_66 rfl rfl (ty := .int) rfl rfl rfl dX0_noteAt_80 (fun H locs hG hsz hq hS => ?_)
        have hG : GA G H g (upd (upd d.1 10 (d.1 7)) 11 x, d.2.1, d.2.2.1, ntC d h i2) := hG
        refine lv_aload_n hx hb dX0_noteAt_83 rfl (lv_at hl 0 rfl) ?_
        refine lv_dup hx hb dX0_noteAt_84 rfl ?_
        refine z_get hx hb hts iwX0_noteAt_0 hown hK hG.1 rfl 9 (by decide) flX0_noteAt_19 rfl (v := .int (d.1 9)) rfl dX0_noteAt_85 ?_
        refine lv_iconst (v := (1 : Int32)) hx hb dX0_noteAt_88 (by decide) ?_
        refine z_iadd hx hb rfl kI_1 dX0_noteAt_89 (by omega) (fun z2 e2 => ?_)
        refine z_putG hx hb hts iwX0_noteAt_0 hown hK hG hS (by simp only [iv]; omega) 9 (by decide) flX0_noteAt_19 rfl rfl (ty := .int) rfl rfl rfl dX0_noteAt_90 (fun H locs hG hsz hq hS => ?_)
        have hG : GA G H g (upd (upd (upd d.1 10 (d.1 7)) 11 x) 9 z2, d.2.1, d.2.2.1, ntC d h i2) := hG
        exact z_rv hx hb hr hlocks (hG.to (ntG_eq e_x hi18_1 (show i2 = h by omega) (zi_eqOf e2))) hS dX0_noteAt_93
      · refine lv_iload_n hx hb dX0_noteAt_23 rfl (lv_at hl 2 rfl) ?_
        refine lv_bipush (v := (120 : Int32)) hx hb dX0_noteAt_24 (by decide) ?_
        refine z_icmp_ge (tgt := 70) hx hb hx2 kI_120 dX0_noteAt_26 (by decide) (fun c_3 => ?_) (fun c_3 => ?_)
        · refine lv_aload_n hx hb dX0_noteAt_70 rfl (lv_at hl 0 rfl) ?_
          refine lv_aload_n hx hb dX0_noteAt_71 rfl (lv_at hl 0 rfl) ?_
          refine z_get hx hb hts iwX0_noteAt_0 hown hK hG.1 rfl 7 (by decide) flX0_noteAt_60 rfl (v := .int (d.1 7)) rfl dX0_noteAt_72 ?_
          refine z_putG hx hb hts iwX0_noteAt_0 hown hK hG hS (by simp only [iv]; omega) 10 (by decide) flX0_noteAt_63 rfl rfl (ty := .int) rfl rfl rfl dX0_noteAt_75 (fun H locs hG hsz hq hS => ?_)
          have hG : GA G H g (upd d.1 10 (d.1 7), d.2.1, d.2.2.1, ntC d h i2) := hG
          refine lv_aload_n hx hb dX0_noteAt_78 rfl (lv_at hl 0 rfl) ?_
          refine lv_iload_n hx hb dX0_noteAt_79 rfl (lv_at hl 1 rfl) ?_
          refine z_putG hx hb hts iwX0_noteAt_0 hown hK hG hS (by simp only [iv]; omega) 11 (by decide) flX0_noteAt_66 rfl rfl (ty := .int) rfl rfl rfl dX0_noteAt_80 (fun H locs hG hsz hq hS => ?_)
          have hG : GA G H g (upd (upd d.1 10 (d.1 7)) 11 x, d.2.1, d.2.2.1, ntC d h i2) := hG
          refine lv_aload_n hx hb dX0_noteAt_83 rfl (lv_at hl 0 rfl) ?_
          refine lv_dup hx hb dX0_noteAt_84 rfl ?_
          refine z_get hx hb hts iwX0_noteAt_0 hown hK hG.1 rfl 9 (by decide) flX0_noteAt_19 rfl (v := .int (d.1 9)) rfl dX0_noteAt_85 ?_
          refine lv_iconst (v := (1 : Int32)) hx hb dX0_noteAt_88 (by decide) ?_
          refine z_iadd hx hb rfl kI_1 dX0_noteAt_89 (by omega) (fun z4 e4 => ?_)
          refine z_putG hx hb hts iwX0_noteAt_0 hown hK hG hS (by simp only [iv]; omega) 9 (by decide) flX0_noteAt_19 rfl rfl (ty := .int) rfl rfl rfl dX0_noteAt_90 (fun H locs hG hsz hq hS => ?_)
          have hG : GA G H g (upd (upd (upd d.1 10 (d.1 7)) 11 x) 9 z4, d.2.1, d.2.2.1, ntC d h i2) := hG
          exact z_rv hx hb hr hlocks (hG.to (ntG_eq e_x hi18_1 (show i2 = h by omega) (zi_eqOf e4))) hS dX0_noteAt_93
        · refine lv_aload_n hx hb dX0_noteAt_29 rfl (lv_at hl 0 rfl) ?_
          refine z_get hx hb hts iwX0_noteAt_0 hown hK hG.1 rfl 14 (by decide) flX0_noteAt_36 rfl (v := .ref (g + 3)) rfl dX0_noteAt_30 ?_
          refine lv_iload_n hx hb dX0_noteAt_33 rfl (lv_at hl 2 rfl) ?_
          refine lv_aload_n hx hb dX0_noteAt_34 rfl (lv_at hl 0 rfl) ?_
          refine z_get hx hb hts iwX0_noteAt_0 hown hK hG.1 rfl 10 (by decide) flX0_noteAt_63 rfl (v := .int (d.1 10)) rfl dX0_noteAt_35 ?_
          refine lv_aload_n hx hb dX0_noteAt_38 rfl (lv_at hl 0 rfl) ?_
          refine z_get hx hb hts iwX0_noteAt_0 hown hK hG.1 rfl 7 (by decide) flX0_noteAt_60 rfl (v := .int (d.1 7)) rfl dX0_noteAt_39 ?_
          refine lv_aload_n hx hb dX0_noteAt_42 rfl (lv_at hl 0 rfl) ?_
          refine z_get hx hb hts iwX0_noteAt_0 hown hK hG.1 rfl 10 (by decide) flX0_noteAt_63 rfl (v := .int (d.1 10)) rfl dX0_noteAt_43 ?_
          refine z_isub hx hb rfl rfl dX0_noteAt_46 (by omega) (fun z5 e5 => ?_)
          refine lv_iload_n hx hb dX0_noteAt_47 rfl (lv_at hl 2 rfl) ?_
          refine lv_aload_n hx hb dX0_noteAt_48 rfl (lv_at hl 0 rfl) ?_
          refine z_get hx hb hts iwX0_noteAt_0 hown hK hG.1 rfl 11 (by decide) flX0_noteAt_66 rfl (v := .int (d.1 11)) rfl dX0_noteAt_49 ?_
          refine z_isub hx hb hx2 rfl dX0_noteAt_52 (by omega) (fun z6 e6 => ?_)
          refine lv_iload_n hx hb dX0_noteAt_53 rfl (lv_at hl 1 rfl) ?_
          refine lv_aload_n hx hb dX0_noteAt_54 rfl (lv_at hl 0 rfl) ?_
          refine z_get hx hb hts iwX0_noteAt_0 hown hK hG.1 rfl 11 (by decide) flX0_noteAt_66 rfl (v := .int (d.1 11)) rfl dX0_noteAt_55 ?_
          refine z_isub hx hb e_x rfl dX0_noteAt_58 (by omega) (fun z7 e7 => ?_)
          refine z_cN (As := [.int z5, .int z6, .int z7]) (rest := [.int (d.1 10), .int x2, .ref (g + 3)]) ⟨hx, hb, hml, hown, hts⟩ (kX4_shareOf l G z5 (((d.1 7).toInt) - ((d.1 10).toInt)) e5 z6 (i2 - ((d.1 11).toInt)) e6 z7 (h - ((d.1 11).toInt)) e7 (by omega)) ⟨va_cnB 3 hts gX0_noteAt_X4_shareOf_n92 rfl rfl rfl hK.2 (hts _ nlX0_noteAt_92.2) hyX4_shareOf ⟨Nat.le_of_ble_eq_true rfl, Nat.le_of_ble_eq_true rfl⟩, hts _ nlX0_noteAt_92.1, trivial⟩ hK trivial rfl hl.1 rfl (Nat.le_of_ble_eq_true rfl) dX0_noteAt_59 ⟨Nat.zero_le _, Nat.zero_le _⟩ (fun z8 e8 => ?_)
          have e8 : z8.toInt = shZ (((d.1 7).toInt) - ((d.1 10).toInt)) (i2 - ((d.1 11).toInt)) (h - ((d.1 11).toInt)) := e8
          refine z_iadd hx hb rfl e8 dX0_noteAt_62 (by omega) (fun z9 e9 => ?_)
          refine z_iastC hx hb hK hG hS (by simp only [iv]; omega) hx2 (by omega) dX0_noteAt_63 (fun H locs hG hsz hq hS => ?_)
          have hG : GA G H g (d.1, d.2.1, d.2.2.1, upd (ntC d h i2) i2.toNat z9) := hG
          refine z_iinc (k := 2) hx hb dX0_noteAt_64 hl rfl hx2 (show (Int32.ofInt 1).toInt = (1 : Int) from rfl) (by omega) (by decide) (fun z10 e10 ls hl => ?_)
          have hl : lv_has ls 3 [(2, .int z10), (0, .ref g), (1, .int x)] := hl
          refine lv_goto (tgt := 18) hx hb dX0_noteAt_67 (by decide) ?_
          exact ih18 z10 (i2 + (1 : Int)) e10 (by omega) (by omega) (by omega) _ _ (hG.to (by rw [ntC_s (by omega) (by omega) e9])) hS ls (lv_sub hl [1, 2, 0] rfl)
  refine lv_aload_n hx hb dX0_noteAt_0 rfl (lv_at hl 0 rfl) ?_
  refine lv_iload_n hx hb dX0_noteAt_1 rfl (lv_at hl 1 rfl) ?_
  refine z_cV (As := [.int x]) (rest := []) ⟨hx, hb, hml, hown, hts⟩ (kX0_isNotedAt l G g d x h e_x) (cwV 1 hts gX0_noteAt_X0_isNotedAt rfl rfl rfl hyX0_isNotedAt ⟨Nat.le_of_ble_eq_true rfl, Nat.le_of_ble_eq_true rfl⟩) hK hG hG.1 rfl rfl hl.1 rfl (Nat.le_of_ble_eq_true rfl) dX0_noteAt_2 ⟨Nat.zero_le _, Nat.zero_le _⟩ (fun z11 e11 => ?_)
  have e11 : isB z11 ((d.1 11).toInt = h) := e11
  refine z_ifb_eq (tgt := 9) hx hb e11 dX0_noteAt_5 (by decide) (fun c_12 => ?_) (fun c_12 => ?_)
  · refine lv_aload_n hx hb dX0_noteAt_9 rfl (lv_at hl 0 rfl) ?_
    refine z_get hx hb hts iwX0_noteAt_0 hown hK hG.1 rfl 11 (by decide) flX0_noteAt_66 rfl (v := .int (d.1 11)) rfl dX0_noteAt_10 ?_
    refine lv_iconst (v := (0 : Int32)) hx hb dX0_noteAt_13 (by decide) ?_
    refine z_mmax hx hb (hml.trans hl.1.symm) hown (hts _ mlX0_noteAt_89.1) (hts _ mlX0_noteAt_89.2.1) (hts _ mlX0_noteAt_89.2.2.1) (hts _ mlX0_noteAt_89.2.2.2) (Nat.le_of_ble_eq_true rfl) (Nat.le_of_ble_eq_true rfl) (Nat.zero_le _) (Nat.zero_le _) rfl kI_0 dX0_noteAt_14 (fun z13 e13 => ?_)
    refine lv_istore_n hx hb dX0_noteAt_17 rfl hl (by decide) rfl (fun ls hl => ?_)
    have hl : lv_has ls 3 [(2, .int z13), (0, .ref g), (1, .int x)] := hl
    exact cut18 (((h - (max ((d.1 11).toInt) (0 : Int))).toNat) + 1) z13 (max ((d.1 11).toInt) (0 : Int)) e13 (Nat.lt_succ_self _) (by omega) (by omega) _ _ (hG.to (by rw [ntC_0 (by omega)])) hS ls (lv_sub hl [1, 2, 0] rfl)
  · exact z_rv hx hb hr hlocks (hG.to (ntG_same (by omega))) hS dX0_noteAt_8

abbrev rmX0_copyFrom : Room := { frames := 1, cells := 0, slots := 0, locals := 48 }
theorem iwX0_copyFrom_0 : ∀ w ∈ wsX00, w ∈ wsX0_copyFrom := fun _ h => List.mem_cons_of_mem _ (List.mem_append_right _ h)
theorem flX0_copyFrom_15 : Cond.fieldLink RX0 15 "SiltedFloats$Gauge" "on" "Z" ∈ wsX0_copyFrom := by decide +kernel
theorem flX0_copyFrom_19 : Cond.fieldLink RX0 19 "SiltedFloats$Gauge" "notes" "I" ∈ wsX0_copyFrom := by decide +kernel
theorem flX0_copyFrom_23 : Cond.fieldLink RX0 23 "SiltedFloats$Gauge" "kinds" "[I" ∈ wsX0_copyFrom := by decide +kernel
theorem flX0_copyFrom_33 : Cond.fieldLink RX0 33 "SiltedFloats$Gauge" "values" "[I" ∈ wsX0_copyFrom := by decide +kernel
theorem flX0_copyFrom_36 : Cond.fieldLink RX0 36 "SiltedFloats$Gauge" "corrections" "[I" ∈ wsX0_copyFrom := by decide +kernel
theorem flX0_copyFrom_39 : Cond.fieldLink RX0 39 "SiltedFloats$Gauge" "delay" "I" ∈ wsX0_copyFrom := by decide +kernel
theorem flX0_copyFrom_42 : Cond.fieldLink RX0 42 "SiltedFloats$Gauge" "scale" "I" ∈ wsX0_copyFrom := by decide +kernel
theorem flX0_copyFrom_45 : Cond.fieldLink RX0 45 "SiltedFloats$Gauge" "offset" "I" ∈ wsX0_copyFrom := by decide +kernel
theorem flX0_copyFrom_48 : Cond.fieldLink RX0 48 "SiltedFloats$Gauge" "floatLevel" "I" ∈ wsX0_copyFrom := by decide +kernel
theorem flX0_copyFrom_51 : Cond.fieldLink RX0 51 "SiltedFloats$Gauge" "silt" "I" ∈ wsX0_copyFrom := by decide +kernel
theorem flX0_copyFrom_54 : Cond.fieldLink RX0 54 "SiltedFloats$Gauge" "silting" "I" ∈ wsX0_copyFrom := by decide +kernel
theorem flX0_copyFrom_57 : Cond.fieldLink RX0 57 "SiltedFloats$Gauge" "sinking" "I" ∈ wsX0_copyFrom := by decide +kernel
theorem flX0_copyFrom_60 : Cond.fieldLink RX0 60 "SiltedFloats$Gauge" "sunk" "I" ∈ wsX0_copyFrom := by decide +kernel
theorem flX0_copyFrom_63 : Cond.fieldLink RX0 63 "SiltedFloats$Gauge" "lastNote" "I" ∈ wsX0_copyFrom := by decide +kernel
theorem flX0_copyFrom_66 : Cond.fieldLink RX0 66 "SiltedFloats$Gauge" "lastNoteHour" "I" ∈ wsX0_copyFrom := by decide +kernel
theorem alX0_copyFrom_69 : (Cond.methodLink RX0 69 arraycopyName ∈ wsX0_copyFrom) ∧ (Cond.native arraycopyName ∈ wsX0_copyFrom) ∧ (Cond.static arraycopyName ∈ wsX0_copyFrom) ∧ (Cond.initialized "java/lang/System" ∈ wsX0_copyFrom) := by decide +kernel
theorem hyX0_copyFrom : yX0_copyFrom.cls = RX0 ∧ yX0_copyFrom.cls ≠ "java/lang/invoke/MethodHandle" ∧ yX0_copyFrom.cls ≠ "java/lang/invoke/VarHandle" ∧ (parseMethodDescriptor yX0_copyFrom.desc).map (fun d => d.parameters.length) = some 1 := by decide +kernel
set_option maxHeartbeats 4000000 in
set_option maxRecDepth 100000 in
theorem kX0_copyFrom (l : Launch) (G : xG) (g : Nat) (d : GD) (o : Nat) (u : GD) (hdj : g + 4 ≤ o ∨ o + 4 ≤ g) (hon : isB (u.1 8) ((u.1 8).toInt = 1)) : Met l yX0_copyFrom wsX0_copyFrom rmX0_copyFrom (va_Pc [.ref g, .ref o] (zPre G (fun H => GA G H g d ∧ GA G H o u))) (zV (fun H => GA G H g u ∧ GA G H o u) (iv g 4)) 0 0 (iv g 4) := by
  refine z_ofW (cc := cX0_copyFrom) (maxL := 2) (ret := none) (by decide +kernel) rfl (Nat.le_of_ble_eq_true rfl) ?_
  intro p e s m below meth c hx hb hml hr hts hown hlocks hK hP ls hl
  obtain ⟨hG, hO⟩ := hP
  have hown : s.vm.findClass RX0 = some m.cls := hown
  have hl : lv_has ls 2 [(0, .ref g), (1, .ref o)] := hl
  have hS : va_S (iv g 4) s.heap s.heap [] := va_S.rf
  refine lv_aload_n hx hb dX0_copyFrom_0 rfl (lv_at hl 0 rfl) ?_
  refine lv_aload_n hx hb dX0_copyFrom_1 rfl (lv_at hl 1 rfl) ?_
  refine z_get hx hb hts iwX0_copyFrom_0 hown hK hO.1 rfl 0 (by decide) flX0_copyFrom_39 rfl (v := .int (u.1 0)) rfl dX0_copyFrom_2 ?_
  refine lv_aload_n hx hb dX0_copyFrom_5 rfl (lv_at hl 1 rfl) ?_
  refine z_get hx hb hts iwX0_copyFrom_0 hown hK hO.1 rfl 1 (by decide) flX0_copyFrom_42 rfl (v := .int (u.1 1)) rfl dX0_copyFrom_6 ?_
  refine lv_aload_n hx hb dX0_copyFrom_9 rfl (lv_at hl 1 rfl) ?_
  refine z_get hx hb hts iwX0_copyFrom_0 hown hK hO.1 rfl 2 (by decide) flX0_copyFrom_45 rfl (v := .int (u.1 2)) rfl dX0_copyFrom_10 ?_
  refine z_cVv (As := [.int (u.1 0), .int (u.1 1), .int (u.1 2)]) (rest := []) ⟨hx, hb, hml, hown, hts⟩ (kX0_become l G g d (u.1 0) ((u.1 0).toInt) rfl (u.1 1) ((u.1 1).toInt) rfl (u.1 2) ((u.1 2).toInt) rfl) (cwV 3 hts gX0_copyFrom_X0_become rfl rfl rfl hyX0_become ⟨Nat.le_of_ble_eq_true rfl, Nat.le_of_ble_eq_true rfl⟩) hK hG hG.1 rfl rfl hl.1 rfl (Nat.le_of_ble_eq_true rfl) dX0_copyFrom_13 ⟨Nat.zero_le _, Nat.zero_le _⟩ hS (fun q h => h) (fun H locs hB hsz hq hS => ?_)
  have hG := hB
  have hG : GA G H g (upd (upd (upd d.1 0 (u.1 0)) 1 (u.1 1)) 2 (u.1 2), d.2) := hG
  have hO := hO.kept (fun q h1 h2 => hq q (by have := hO.lt; omega) (by simp only [iv]; omega))
  refine lv_aload_n hx hb dX0_copyFrom_16 rfl (lv_at hl 0 rfl) ?_
  refine lv_aload_n hx hb dX0_copyFrom_17 rfl (lv_at hl 1 rfl) ?_
  refine z_get hx hb hts iwX0_copyFrom_0 hown hK hO.1 rfl 3 (by decide) flX0_copyFrom_48 rfl (v := .int (u.1 3)) rfl dX0_copyFrom_18 ?_
  refine z_putG hx hb hts iwX0_copyFrom_0 hown hK hG hS (by simp only [iv]; omega) 3 (by decide) flX0_copyFrom_48 rfl rfl (ty := .int) rfl rfl rfl dX0_copyFrom_21 (fun H locs hG hsz hq hS => ?_)
  have hG : GA G H g (upd (upd (upd (upd d.1 0 (u.1 0)) 1 (u.1 1)) 2 (u.1 2)) 3 (u.1 3), d.2.1, d.2.2.1, d.2.2.2) := hG
  have hO := hO.kept (fun q h1 h2 => hq q (by omega))
  refine lv_aload_n hx hb dX0_copyFrom_24 rfl (lv_at hl 0 rfl) ?_
  refine lv_aload_n hx hb dX0_copyFrom_25 rfl (lv_at hl 1 rfl) ?_
  refine z_get hx hb hts iwX0_copyFrom_0 hown hK hO.1 rfl 4 (by decide) flX0_copyFrom_51 rfl (v := .int (u.1 4)) rfl dX0_copyFrom_26 ?_
  refine z_putG hx hb hts iwX0_copyFrom_0 hown hK hG hS (by simp only [iv]; omega) 4 (by decide) flX0_copyFrom_51 rfl rfl (ty := .int) rfl rfl rfl dX0_copyFrom_29 (fun H locs hG hsz hq hS => ?_)
  have hG : GA G H g (upd (upd (upd (upd (upd d.1 0 (u.1 0)) 1 (u.1 1)) 2 (u.1 2)) 3 (u.1 3)) 4 (u.1 4), d.2.1, d.2.2.1, d.2.2.2) := hG
  have hO := hO.kept (fun q h1 h2 => hq q (by omega))
  refine lv_aload_n hx hb dX0_copyFrom_32 rfl (lv_at hl 0 rfl) ?_
  refine lv_aload_n hx hb dX0_copyFrom_33 rfl (lv_at hl 1 rfl) ?_
  refine z_get hx hb hts iwX0_copyFrom_0 hown hK hO.1 rfl 5 (by decide) flX0_copyFrom_54 rfl (v := .int (u.1 5)) rfl dX0_copyFrom_34 ?_
  refine z_putG hx hb hts iwX0_copyFrom_0 hown hK hG hS (by simp only [iv]; omega) 5 (by decide) flX0_copyFrom_54 rfl rfl (ty := .int) rfl rfl rfl dX0_copyFrom_37 (fun H locs hG hsz hq hS => ?_)
  have hG : GA G H g (upd (upd (upd (upd (upd (upd d.1 0 (u.1 0)) 1 (u.1 1)) 2 (u.1 2)) 3 (u.1 3)) 4 (u.1 4)) 5 (u.1 5), d.2.1, d.2.2.1, d.2.2.2) := hG
  have hO := hO.kept (fun q h1 h2 => hq q (by omega))
  refine lv_aload_n hx hb dX0_copyFrom_40 rfl (lv_at hl 0 rfl) ?_
  refine lv_aload_n hx hb dX0_copyFrom_41 rfl (lv_at hl 1 rfl) ?_
  refine z_get hx hb hts iwX0_copyFrom_0 hown hK hO.1 rfl 6 (by decide) flX0_copyFrom_57 rfl (v := .int (u.1 6)) rfl dX0_copyFrom_42 ?_
  refine z_putG hx hb hts iwX0_copyFrom_0 hown hK hG hS (by simp only [iv]; omega) 6 (by decide) flX0_copyFrom_57 rfl rfl (ty := .int) rfl rfl rfl dX0_copyFrom_45 (fun H locs hG hsz hq hS => ?_)
  have hG : GA G H g (upd (upd (upd (upd (upd (upd (upd d.1 0 (u.1 0)) 1 (u.1 1)) 2 (u.1 2)) 3 (u.1 3)) 4 (u.1 4)) 5 (u.1 5)) 6 (u.1 6), d.2.1, d.2.2.1, d.2.2.2) := hG
  have hO := hO.kept (fun q h1 h2 => hq q (by omega))
  refine lv_aload_n hx hb dX0_copyFrom_48 rfl (lv_at hl 0 rfl) ?_
  refine lv_aload_n hx hb dX0_copyFrom_49 rfl (lv_at hl 1 rfl) ?_
  refine z_get hx hb hts iwX0_copyFrom_0 hown hK hO.1 rfl 7 (by decide) flX0_copyFrom_60 rfl (v := .int (u.1 7)) rfl dX0_copyFrom_50 ?_
  refine z_putG hx hb hts iwX0_copyFrom_0 hown hK hG hS (by simp only [iv]; omega) 7 (by decide) flX0_copyFrom_60 rfl rfl (ty := .int) rfl rfl rfl dX0_copyFrom_53 (fun H locs hG hsz hq hS => ?_)
  have hG : GA G H g (upd (upd (upd (upd (upd (upd (upd (upd d.1 0 (u.1 0)) 1 (u.1 1)) 2 (u.1 2)) 3 (u.1 3)) 4 (u.1 4)) 5 (u.1 5)) 6 (u.1 6)) 7 (u.1 7), d.2.1, d.2.2.1, d.2.2.2) := hG
  have hO := hO.kept (fun q h1 h2 => hq q (by omega))
  refine lv_aload_n hx hb dX0_copyFrom_56 rfl (lv_at hl 0 rfl) ?_
  refine lv_aload_n hx hb dX0_copyFrom_57 rfl (lv_at hl 1 rfl) ?_
  refine z_get hx hb hts iwX0_copyFrom_0 hown hK hO.1 rfl 8 (by decide) flX0_copyFrom_15 rfl (v := .int (u.1 8)) rfl dX0_copyFrom_58 ?_
  refine z_putG hx hb hts iwX0_copyFrom_0 hown hK hG hS (by simp only [iv]; omega) 8 (by decide) flX0_copyFrom_15 rfl rfl (ty := .boolean) rfl (zi_narB hon) (zi_fitB hon) dX0_copyFrom_61 (fun H locs hG hsz hq hS => ?_)
  have hG : GA G H g (upd (upd (upd (upd (upd (upd (upd (upd (upd d.1 0 (u.1 0)) 1 (u.1 1)) 2 (u.1 2)) 3 (u.1 3)) 4 (u.1 4)) 5 (u.1 5)) 6 (u.1 6)) 7 (u.1 7)) 8 (u.1 8), d.2.1, d.2.2.1, d.2.2.2) := hG
  have hO := hO.kept (fun q h1 h2 => hq q (by omega))
  refine lv_aload_n hx hb dX0_copyFrom_64 rfl (lv_at hl 0 rfl) ?_
  refine lv_aload_n hx hb dX0_copyFrom_65 rfl (lv_at hl 1 rfl) ?_
  refine z_get hx hb hts iwX0_copyFrom_0 hown hK hO.1 rfl 9 (by decide) flX0_copyFrom_19 rfl (v := .int (u.1 9)) rfl dX0_copyFrom_66 ?_
  refine z_putG hx hb hts iwX0_copyFrom_0 hown hK hG hS (by simp only [iv]; omega) 9 (by decide) flX0_copyFrom_19 rfl rfl (ty := .int) rfl rfl rfl dX0_copyFrom_69 (fun H locs hG hsz hq hS => ?_)
  have hG : GA G H g (upd (upd (upd (upd (upd (upd (upd (upd (upd (upd d.1 0 (u.1 0)) 1 (u.1 1)) 2 (u.1 2)) 3 (u.1 3)) 4 (u.1 4)) 5 (u.1 5)) 6 (u.1 6)) 7 (u.1 7)) 8 (u.1 8)) 9 (u.1 9), d.2.1, d.2.2.1, d.2.2.2) := hG
  have hO := hO.kept (fun q h1 h2 => hq q (by omega))
  refine lv_aload_n hx hb dX0_copyFrom_72 rfl (lv_at hl 0 rfl) ?_
  refine lv_aload_n hx hb dX0_copyFrom_73 rfl (lv_at hl 1 rfl) ?_
  refine z_get hx hb hts iwX0_copyFrom_0 hown hK hO.1 rfl 10 (by decide) flX0_copyFrom_63 rfl (v := .int (u.1 10)) rfl dX0_copyFrom_74 ?_
  refine z_putG hx hb hts iwX0_copyFrom_0 hown hK hG hS (by simp only [iv]; omega) 10 (by decide) flX0_copyFrom_63 rfl rfl (ty := .int) rfl rfl rfl dX0_copyFrom_77 (fun H locs hG hsz hq hS => ?_)
  have hG : GA G H g (upd (upd (upd (upd (upd (upd (upd (upd (upd (upd (upd d.1 0 (u.1 0)) 1 (u.1 1)) 2 (u.1 2)) 3 (u.1 3)) 4 (u.1 4)) 5 (u.1 5)) 6 (u.1 6)) 7 (u.1 7)) 8 (u.1 8)) 9 (u.1 9)) 10 (u.1 10), d.2.1, d.2.2.1, d.2.2.2) := hG
  have hO := hO.kept (fun q h1 h2 => hq q (by omega))
  refine lv_aload_n hx hb dX0_copyFrom_80 rfl (lv_at hl 0 rfl) ?_
  refine lv_aload_n hx hb dX0_copyFrom_81 rfl (lv_at hl 1 rfl) ?_
  refine z_get hx hb hts iwX0_copyFrom_0 hown hK hO.1 rfl 11 (by decide) flX0_copyFrom_66 rfl (v := .int (u.1 11)) rfl dX0_copyFrom_82 ?_
  refine z_putG hx hb hts iwX0_copyFrom_0 hown hK hG hS (by simp only [iv]; omega) 11 (by decide) flX0_copyFrom_66 rfl rfl (ty := .int) rfl rfl rfl dX0_copyFrom_85 (fun H locs hG hsz hq hS => ?_)
  have hG : GA G H g (upd (upd (upd (upd (upd (upd (upd (upd (upd (upd (upd (upd d.1 0 (u.1 0)) 1 (u.1 1)) 2 (u.1 2)) 3 (u.1 3)) 4 (u.1 4)) 5 (u.1 5)) 6 (u.1 6)) 7 (u.1 7)) 8 (u.1 8)) 9 (u.1 9)) 10 (u.1 10)) 11 (u.1 11), d.2.1, d.2.2.1, d.2.2.2) := hG
  have hO := hO.kept (fun q h1 h2 => hq q (by omega))
  refine lv_aload_n hx hb dX0_copyFrom_88 rfl (lv_at hl 1 rfl) ?_
  refine z_get hx hb hts iwX0_copyFrom_0 hown hK hO.1 rfl 12 (by decide) flX0_copyFrom_23 rfl (v := .ref (o + 1)) rfl dX0_copyFrom_89 ?_
  refine lv_iconst (v := (0 : Int32)) hx hb dX0_copyFrom_92 (by decide) ?_
  refine lv_aload_n hx hb dX0_copyFrom_93 rfl (lv_at hl 0 rfl) ?_
  refine z_get hx hb hts iwX0_copyFrom_0 hown hK hG.1 rfl 12 (by decide) flX0_copyFrom_23 rfl (v := .ref (g + 1)) rfl dX0_copyFrom_94 ?_
  refine lv_iconst (v := (0 : Int32)) hx hb dX0_copyFrom_97 (by decide) ?_
  refine lv_bipush (v := (120 : Int32)) hx hb dX0_copyFrom_98 (by decide) ?_
  refine z_copyK hx hb (hml.trans hl.1.symm) hown (hts _ alX0_copyFrom_69.1) (hts _ alX0_copyFrom_69.2.1) (hts _ alX0_copyFrom_69.2.2.1) (hts _ alX0_copyFrom_69.2.2.2) hK hO hG hS (by simp only [iv]; omega) (Nat.le_of_ble_eq_true rfl) (Nat.le_of_ble_eq_true rfl) dX0_copyFrom_100 (fun H locs hG hsz hq hS => ?_)
  have hG : GA G H g (upd (upd (upd (upd (upd (upd (upd (upd (upd (upd (upd (upd d.1 0 (u.1 0)) 1 (u.1 1)) 2 (u.1 2)) 3 (u.1 3)) 4 (u.1 4)) 5 (u.1 5)) 6 (u.1 6)) 7 (u.1 7)) 8 (u.1 8)) 9 (u.1 9)) 10 (u.1 10)) 11 (u.1 11), va_cpy u.2.1 d.2.1 0 0 120, d.2.2.1, d.2.2.2) := hG
  have hO := hO.kept (fun q h1 h2 => hq q (by omega))
  refine lv_aload_n hx hb dX0_copyFrom_103 rfl (lv_at hl 1 rfl) ?_
  refine z_get hx hb hts iwX0_copyFrom_0 hown hK hO.1 rfl 13 (by decide) flX0_copyFrom_33 rfl (v := .ref (o + 2)) rfl dX0_copyFrom_104 ?_
  refine lv_iconst (v := (0 : Int32)) hx hb dX0_copyFrom_107 (by decide) ?_
  refine lv_aload_n hx hb dX0_copyFrom_108 rfl (lv_at hl 0 rfl) ?_
  refine z_get hx hb hts iwX0_copyFrom_0 hown hK hG.1 rfl 13 (by decide) flX0_copyFrom_33 rfl (v := .ref (g + 2)) rfl dX0_copyFrom_109 ?_
  refine lv_iconst (v := (0 : Int32)) hx hb dX0_copyFrom_112 (by decide) ?_
  refine lv_bipush (v := (120 : Int32)) hx hb dX0_copyFrom_113 (by decide) ?_
  refine z_copyV hx hb (hml.trans hl.1.symm) hown (hts _ alX0_copyFrom_69.1) (hts _ alX0_copyFrom_69.2.1) (hts _ alX0_copyFrom_69.2.2.1) (hts _ alX0_copyFrom_69.2.2.2) hK hO hG hS (by simp only [iv]; omega) (Nat.le_of_ble_eq_true rfl) (Nat.le_of_ble_eq_true rfl) dX0_copyFrom_115 (fun H locs hG hsz hq hS => ?_)
  have hG : GA G H g (upd (upd (upd (upd (upd (upd (upd (upd (upd (upd (upd (upd d.1 0 (u.1 0)) 1 (u.1 1)) 2 (u.1 2)) 3 (u.1 3)) 4 (u.1 4)) 5 (u.1 5)) 6 (u.1 6)) 7 (u.1 7)) 8 (u.1 8)) 9 (u.1 9)) 10 (u.1 10)) 11 (u.1 11), va_cpy u.2.1 d.2.1 0 0 120, va_cpy u.2.2.1 d.2.2.1 0 0 120, d.2.2.2) := hG
  have hO := hO.kept (fun q h1 h2 => hq q (by omega))
  refine lv_aload_n hx hb dX0_copyFrom_118 rfl (lv_at hl 1 rfl) ?_
  refine z_get hx hb hts iwX0_copyFrom_0 hown hK hO.1 rfl 14 (by decide) flX0_copyFrom_36 rfl (v := .ref (o + 3)) rfl dX0_copyFrom_119 ?_
  refine lv_iconst (v := (0 : Int32)) hx hb dX0_copyFrom_122 (by decide) ?_
  refine lv_aload_n hx hb dX0_copyFrom_123 rfl (lv_at hl 0 rfl) ?_
  refine z_get hx hb hts iwX0_copyFrom_0 hown hK hG.1 rfl 14 (by decide) flX0_copyFrom_36 rfl (v := .ref (g + 3)) rfl dX0_copyFrom_124 ?_
  refine lv_iconst (v := (0 : Int32)) hx hb dX0_copyFrom_127 (by decide) ?_
  refine lv_bipush (v := (120 : Int32)) hx hb dX0_copyFrom_128 (by decide) ?_
  refine z_copyC hx hb (hml.trans hl.1.symm) hown (hts _ alX0_copyFrom_69.1) (hts _ alX0_copyFrom_69.2.1) (hts _ alX0_copyFrom_69.2.2.1) (hts _ alX0_copyFrom_69.2.2.2) hK hO hG hS (by simp only [iv]; omega) (Nat.le_of_ble_eq_true rfl) (Nat.le_of_ble_eq_true rfl) dX0_copyFrom_130 (fun H locs hG hsz hq hS => ?_)
  have hG : GA G H g (upd (upd (upd (upd (upd (upd (upd (upd (upd (upd (upd (upd d.1 0 (u.1 0)) 1 (u.1 1)) 2 (u.1 2)) 3 (u.1 3)) 4 (u.1 4)) 5 (u.1 5)) 6 (u.1 6)) 7 (u.1 7)) 8 (u.1 8)) 9 (u.1 9)) 10 (u.1 10)) 11 (u.1 11), va_cpy u.2.1 d.2.1 0 0 120, va_cpy u.2.2.1 d.2.2.1 0 0 120, va_cpy u.2.2.2 d.2.2.2 0 0 120) := hG
  have hO := hO.kept (fun q h1 h2 => hq q (by omega))
  exact z_rv hx hb hr hlocks ⟨hG.ext (fun k hk => by rcases (show k = 0 ∨ k = 1 ∨ k = 2 ∨ k = 3 ∨ k = 4 ∨ k = 5 ∨ k = 6 ∨ k = 7 ∨ k = 8 ∨ k = 9 ∨ k = 10 ∨ k = 11 by omega) with h | h | h | h | h | h | h | h | h | h | h | h <;> subst h <;> rfl) (fun j hj => va_cpy0 hj) (fun j hj => va_cpy0 hj) (fun j hj => va_cpy0 hj), hO⟩ hS dX0_copyFrom_133

abbrev rmX0_mendBetween : Room := { frames := 2, cells := 0, slots := 0, locals := 44 }
theorem iwX0_mendBetween_0 : ∀ w ∈ wsX00, w ∈ wsX0_mendBetween := fun _ h => List.mem_cons_of_mem _ (List.mem_append_right _ h)
theorem flX0_mendBetween_23 : Cond.fieldLink RX0 23 "SiltedFloats$Gauge" "kinds" "[I" ∈ wsX0_mendBetween := by decide +kernel
theorem flX0_mendBetween_33 : Cond.fieldLink RX0 33 "SiltedFloats$Gauge" "values" "[I" ∈ wsX0_mendBetween := by decide +kernel
theorem mlX0_mendBetween_89 : (Cond.methodLink RX0 89 Lib.Math.max.name ∈ wsX0_mendBetween) ∧ (Cond.static Lib.Math.max.name ∈ wsX0_mendBetween) ∧ (Cond.initialized "java/lang/Math" ∈ wsX0_mendBetween) ∧ (Cond.code Lib.Math.max.name Lib.Math.max.code 2 (some .int) ∈ wsX0_mendBetween) := by decide +kernel
theorem nlX0_mendBetween_92 : (Cond.static yX4_shareOf ∈ wsX0_mendBetween) ∧ (Cond.initialized yX4_shareOf.cls ∈ wsX0_mendBetween) := by decide +kernel
theorem hyX0_mendBetween : yX0_mendBetween.cls = RX0 ∧ yX0_mendBetween.cls ≠ "java/lang/invoke/MethodHandle" ∧ yX0_mendBetween.cls ≠ "java/lang/invoke/VarHandle" ∧ (parseMethodDescriptor yX0_mendBetween.desc).map (fun d => d.parameters.length) = some 4 := by decide +kernel
set_option maxHeartbeats 4000000 in
set_option maxRecDepth 100000 in
theorem kX0_mendBetween (l : Launch) (G : xG) (g : Nat) (d : GD) (o : Nat) (u : GD) (x : Int32) (a : Int) (e_x : x.toInt = a) (y : Int32) (b : Int) (e_y : y.toInt = b) (z : Int32) (f : Int) (e_z : z.toInt = f) (hdj : g + 4 ≤ o ∨ o + 4 ≤ g) (hsm : smallG d) (hso : smallG u) (hab : -1 ≤ a ∧ a < b ∧ b ≤ 120 ∧ -100 ≤ f ∧ f ≤ 100) : Met l yX0_mendBetween wsX0_mendBetween rmX0_mendBetween (va_Pc [.ref g, .int x, .int y, .ref o, .int z] (zPre G (fun H => GA G H g d ∧ GA G H o u))) (zV (fun H => GA G H g (mdG d u a b f) ∧ GA G H o u) (iv g 4)) 0 0 (iv g 4) := by
  refine z_ofW (cc := cX0_mendBetween) (maxL := 8) (ret := none) (by decide +kernel) rfl (Nat.le_of_ble_eq_true rfl) ?_
  intro p e s m below meth c hx hb hml hr hts hown hlocks hK hP ls hl
  obtain ⟨hG, hO⟩ := hP
  have hown : s.vm.findClass RX0 = some m.cls := hown
  have hl : lv_has ls 8 [(0, .ref g), (1, .int x), (2, .int y), (3, .ref o), (4, .int z)] := hl
  have hS : va_S (iv g 4) s.heap s.heap [] := va_S.rf
  have hk1 := hsm.cord a
  have hk2 := hso.cord (a + f)
  have hk3 := hsm.cord b
  have hk4 := hso.cord (b + f)
  have cut41 : ∀ (n41 : Nat), ∀ (x5 : Int32) (i5 : Int) (_ : x5.toInt = i5) (x6 : Int32) (i6 : Int) (_ : x6.toInt = i6) (x7 : Int32) (i7 : Int) (_ : x7.toInt = i7), (b - i7).toNat < n41 → (i5 = mdE d u a f) → (i6 = mdE d u b f) → (a < i7 ∧ 0 ≤ i7 ∧ i7 ≤ b) → ∀ (H : Heap) (locs : List Loc), GA G H g (d.1, mdK d a i7, mdV d u a b f i7, d.2.2.2) → GA G H o u → va_S (iv g 4) s.heap H locs → ∀ ls : Array Slot, lv_has ls 8 [(0, .ref g), (1, .int x), (2, .int y), (3, .ref o), (4, .int z), (5, .int x5), (6, .int x6), (7, .int x7)] → W p l e rmX0_mendBetween s m ([.ref g, .int x, .int y, .ref o, .int z] : List Value).toArray below meth c H locs 0 0 (MQ below (zV (fun H => GA G H g (mdG d u a b f) ∧ GA G H o u) (iv g 4)) ([.ref g, .int x, .int y, .ref o, .int z] : List Value).toArray s 0 0 (iv g 4)) (F0 m 41 ls []) := by
    intro n41
    induction n41 with
    | zero =>
      intro x5 i5 hx5 x6 i6 hx6 x7 i7 hx7 hmu41 hi41_0 hi41_1 hi41_2 H locs hG hO hS ls hl
      exact absurd hmu41 (Nat.not_lt_zero _)
    | succ n41 ih41 =>
      intro x5 i5 hx5 x6 i6 hx6 x7 i7 hx7 hmu41 hi41_0 hi41_1 hi41_2 H locs hG hO hS ls hl
      have hk5 := hso.cord (i7 + f)
      have hk6 := mdE_b hsm hso a f
      have hk7 := mdE_b hsm hso b f
      have hmb := mul_b (a := i6 - i5) (b := i7 - a) (A := 8008000) (B := 200) (by omega) (by omega)
      have hsb := shZ_b2 (a := b - a) hmb
      refine lv_iload hx hb dX0_mendBetween_41 (lv_at hl 7 rfl) ?_
      refine lv_iload_n hx hb dX0_mendBetween_43 rfl (lv_at hl 2 rfl) ?_
      refine z_icmp_ge (tgt := 103) hx hb hx7 e_y dX0_mendBetween_44 (by decide) (fun c_1 => ?_) (fun c_1 => ?_)
      · exact z_rv hx hb hr hlocks ⟨hG.to (by rw [show i7 = b by omega]; rfl), hO⟩ hS dX0_mendBetween_103
      · refine lv_iload hx hb dX0_mendBetween_47 (lv_at hl 7 rfl) ?_
        refine lv_bipush (v := (120 : Int32)) hx hb dX0_mendBetween_49 (by decide) ?_
        refine z_icmp_ge (tgt := 103) hx hb hx7 kI_120 dX0_mendBetween_51 (by decide) (fun c_2 => ?_) (fun c_2 => ?_)
        · omega
        · refine lv_aload_n hx hb dX0_mendBetween_54 rfl (lv_at hl 0 rfl) ?_
          refine z_get hx hb hts iwX0_mendBetween_0 hown hK hG.1 rfl 12 (by decide) flX0_mendBetween_23 rfl (v := .ref (g + 1)) rfl dX0_mendBetween_55 ?_
          refine lv_iload hx hb dX0_mendBetween_58 (lv_at hl 7 rfl) ?_
          refine lv_iconst (v := (2 : Int32)) hx hb dX0_mendBetween_60 (by decide) ?_
          refine z_iastK hx hb hK hG hS (by simp only [iv]; omega) hx7 (by omega) dX0_mendBetween_61 (fun H locs hG hsz hq hS => ?_)
          have hG : GA G H g (d.1, upd (mdK d a i7) i7.toNat (2 : Int32), mdV d u a b f i7, d.2.2.2) := hG
          have hO := hO.kept (fun q h1 h2 => hq q (by omega))
          refine lv_aload_n hx hb dX0_mendBetween_62 rfl (lv_at hl 0 rfl) ?_
          refine z_get hx hb hts iwX0_mendBetween_0 hown hK hG.1 rfl 13 (by decide) flX0_mendBetween_33 rfl (v := .ref (g + 2)) rfl dX0_mendBetween_63 ?_
          refine lv_iload hx hb dX0_mendBetween_66 (lv_at hl 7 rfl) ?_
          refine lv_aload_n hx hb dX0_mendBetween_68 rfl (lv_at hl 3 rfl) ?_
          refine lv_iload hx hb dX0_mendBetween_69 (lv_at hl 7 rfl) ?_
          refine lv_iload hx hb dX0_mendBetween_71 (lv_at hl 4 rfl) ?_
          refine z_iadd hx hb hx7 e_z dX0_mendBetween_73 (by omega) (fun z3 e3 => ?_)
          refine z_cV (As := [.int z3]) (rest := [.int x7, .ref (g + 2)]) ⟨hx, hb, hml, hown, hts⟩ (kX0_correctedAt l G o u z3 (i7 + f) e3 hso) (cwV 1 hts gX0_mendBetween_X0_correctedAt rfl rfl rfl hyX0_correctedAt ⟨Nat.le_of_ble_eq_true rfl, Nat.le_of_ble_eq_true rfl⟩) hK hO hO.1 rfl rfl hl.1 rfl (Nat.le_of_ble_eq_true rfl) dX0_mendBetween_74 ⟨Nat.zero_le _, Nat.zero_le _⟩ (fun z4 e4 => ?_)
          have e4 : z4.toInt = cordZ u (i7 + f) := e4
          refine lv_iload hx hb dX0_mendBetween_77 (lv_at hl 5 rfl) ?_
          refine z_iadd hx hb e4 hx5 dX0_mendBetween_79 (by omega) (fun z5 e5 => ?_)
          refine lv_iload hx hb dX0_mendBetween_80 (lv_at hl 6 rfl) ?_
          refine lv_iload hx hb dX0_mendBetween_82 (lv_at hl 5 rfl) ?_
          refine z_isub hx hb hx6 hx5 dX0_mendBetween_84 (by omega) (fun z6 e6 => ?_)
          refine lv_iload hx hb dX0_mendBetween_85 (lv_at hl 7 rfl) ?_
          refine lv_iload_n hx hb dX0_mendBetween_87 rfl (lv_at hl 1 rfl) ?_
          refine z_isub hx hb hx7 e_x dX0_mendBetween_88 (by omega) (fun z7 e7 => ?_)
          refine lv_iload_n hx hb dX0_mendBetween_89 rfl (lv_at hl 2 rfl) ?_
          refine lv_iload_n hx hb dX0_mendBetween_90 rfl (lv_at hl 1 rfl) ?_
          refine z_isub hx hb e_y e_x dX0_mendBetween_91 (by omega) (fun z8 e8 => ?_)
          refine z_cN (As := [.int z6, .int z7, .int z8]) (rest := [.int z5, .int x7, .ref (g + 2)]) ⟨hx, hb, hml, hown, hts⟩ (kX4_shareOf l G z6 (i6 - i5) e6 z7 (i7 - a) e7 z8 (b - a) e8 (by omega)) ⟨va_cnB 3 hts gX0_mendBetween_X4_shareOf_n92 rfl rfl rfl hK.2 (hts _ nlX0_mendBetween_92.2) hyX4_shareOf ⟨Nat.le_of_ble_eq_true rfl, Nat.le_of_ble_eq_true rfl⟩, hts _ nlX0_mendBetween_92.1, trivial⟩ hK trivial rfl hl.1 rfl (Nat.le_of_ble_eq_true rfl) dX0_mendBetween_92 ⟨Nat.zero_le _, Nat.zero_le _⟩ (fun z9 e9 => ?_)
          have e9 : z9.toInt = shZ (i6 - i5) (i7 - a) (b - a) := e9
          refine z_iadd hx hb e5 e9 dX0_mendBetween_95 (by omega) (fun z10 e10 => ?_)
          refine z_iastV hx hb hK hG hS (by simp only [iv]; omega) hx7 (by omega) dX0_mendBetween_96 (fun H locs hG hsz hq hS => ?_)
          have hG : GA G H g (d.1, upd (mdK d a i7) i7.toNat (2 : Int32), upd (mdV d u a b f i7) i7.toNat z10, d.2.2.2) := hG
          have hO := hO.kept (fun q h1 h2 => hq q (by omega))
          refine z_iinc (k := 7) hx hb dX0_mendBetween_97 hl rfl hx7 (show (Int32.ofInt 1).toInt = (1 : Int) from rfl) (by omega) (by decide) (fun z11 e11 ls hl => ?_)
          have hl : lv_has ls 8 [(7, .int z11), (0, .ref g), (1, .int x), (2, .int y), (3, .ref o), (4, .int z), (5, .int x5), (6, .int x6)] := hl
          refine lv_goto (tgt := 41) hx hb dX0_mendBetween_100 (by decide) ?_
          exact ih41 x5 i5 hx5 x6 i6 hx6 z11 (i7 + (1 : Int)) e11 (by omega) (by omega) (by omega) (by omega) _ _ (hG.to (by rw [mdK_s (by omega) (by omega), mdV_s (by omega) (by omega) (by rw [e10, hi41_0, hi41_1]; rfl)])) hO hS ls (lv_sub hl [1, 2, 3, 4, 5, 6, 7, 0] rfl)
  refine lv_aload_n hx hb dX0_mendBetween_0 rfl (lv_at hl 0 rfl) ?_
  refine lv_iload_n hx hb dX0_mendBetween_1 rfl (lv_at hl 1 rfl) ?_
  refine z_cV (As := [.int x]) (rest := []) ⟨hx, hb, hml, hown, hts⟩ (kX0_correctedAt l G g d x a e_x (by first | assumption | omega)) (cwV 1 hts gX0_mendBetween_X0_correctedAt rfl rfl rfl hyX0_correctedAt ⟨Nat.le_of_ble_eq_true rfl, Nat.le_of_ble_eq_true rfl⟩) hK hG hG.1 rfl rfl hl.1 rfl (Nat.le_of_ble_eq_true rfl) dX0_mendBetween_2 ⟨Nat.zero_le _, Nat.zero_le _⟩ (fun z12 e12 => ?_)
  have e12 : z12.toInt = cordZ d a := e12
  refine lv_aload_n hx hb dX0_mendBetween_5 rfl (lv_at hl 3 rfl) ?_
  refine lv_iload_n hx hb dX0_mendBetween_6 rfl (lv_at hl 1 rfl) ?_
  refine lv_iload hx hb dX0_mendBetween_7 (lv_at hl 4 rfl) ?_
  refine z_iadd hx hb e_x e_z dX0_mendBetween_9 (by omega) (fun z13 e13 => ?_)
  refine z_cV (As := [.int z13]) (rest := [.int z12]) ⟨hx, hb, hml, hown, hts⟩ (kX0_correctedAt l G o u z13 (a + f) e13 hso) (cwV 1 hts gX0_mendBetween_X0_correctedAt rfl rfl rfl hyX0_correctedAt ⟨Nat.le_of_ble_eq_true rfl, Nat.le_of_ble_eq_true rfl⟩) hK hO hO.1 rfl rfl hl.1 rfl (Nat.le_of_ble_eq_true rfl) dX0_mendBetween_10 ⟨Nat.zero_le _, Nat.zero_le _⟩ (fun z14 e14 => ?_)
  have e14 : z14.toInt = cordZ u (a + f) := e14
  refine z_isub hx hb e12 e14 dX0_mendBetween_13 (by omega) (fun z15 e15 => ?_)
  refine lv_istore hx hb dX0_mendBetween_14 hl (by decide) rfl (fun ls hl => ?_)
  have hl : lv_has ls 8 [(5, .int z15), (0, .ref g), (1, .int x), (2, .int y), (3, .ref o), (4, .int z)] := hl
  refine lv_aload_n hx hb dX0_mendBetween_16 rfl (lv_at hl 1 rfl) ?_
  refine lv_iload_n hx hb dX0_mendBetween_17 rfl (lv_at hl 3 rfl) ?_
  refine z_cV (As := [.int y]) (rest := []) ⟨hx, hb, hml, hown, hts⟩ (kX0_correctedAt l G g d y b e_y (by first | assumption | omega)) (cwV 1 hts gX0_mendBetween_X0_correctedAt rfl rfl rfl hyX0_correctedAt ⟨Nat.le_of_ble_eq_true rfl, Nat.le_of_ble_eq_true rfl⟩) hK hG hG.1 rfl rfl hl.1 rfl (Nat.le_of_ble_eq_true rfl) dX0_mendBetween_18 ⟨Nat.zero_le _, Nat.zero_le _⟩ (fun z16 e16 => ?_)
  have e16 : z16.toInt = cordZ d b := e16
  refine lv_aload_n hx hb dX0_mendBetween_21 rfl (lv_at hl 4 rfl) ?_
  refine lv_iload_n hx hb dX0_mendBetween_22 rfl (lv_at hl 3 rfl) ?_
  refine lv_iload hx hb dX0_mendBetween_23 (lv_at hl 5 rfl) ?_
  refine z_iadd hx hb e_y e_z dX0_mendBetween_25 (by omega) (fun z17 e17 => ?_)
  refine z_cV (As := [.int z17]) (rest := [.int z16]) ⟨hx, hb, hml, hown, hts⟩ (kX0_correctedAt l G o u z17 (b + f) e17 hso) (cwV 1 hts gX0_mendBetween_X0_correctedAt rfl rfl rfl hyX0_correctedAt ⟨Nat.le_of_ble_eq_true rfl, Nat.le_of_ble_eq_true rfl⟩) hK hO hO.1 rfl rfl hl.1 rfl (Nat.le_of_ble_eq_true rfl) dX0_mendBetween_26 ⟨Nat.zero_le _, Nat.zero_le _⟩ (fun z18 e18 => ?_)
  have e18 : z18.toInt = cordZ u (b + f) := e18
  refine z_isub hx hb e16 e18 dX0_mendBetween_29 (by omega) (fun z19 e19 => ?_)
  refine lv_istore hx hb dX0_mendBetween_30 hl (by decide) rfl (fun ls hl => ?_)
  have hl : lv_has ls 8 [(6, .int z19), (5, .int z15), (0, .ref g), (1, .int x), (2, .int y), (3, .ref o), (4, .int z)] := hl
  refine lv_iload_n hx hb dX0_mendBetween_32 rfl (lv_at hl 3 rfl) ?_
  refine lv_iconst (v := (1 : Int32)) hx hb dX0_mendBetween_33 (by decide) ?_
  refine z_iadd hx hb e_x kI_1 dX0_mendBetween_34 (by omega) (fun z20 e20 => ?_)
  refine lv_iconst (v := (0 : Int32)) hx hb dX0_mendBetween_35 (by decide) ?_
  refine z_mmax hx hb (hml.trans hl.1.symm) hown (hts _ mlX0_mendBetween_89.1) (hts _ mlX0_mendBetween_89.2.1) (hts _ mlX0_mendBetween_89.2.2.1) (hts _ mlX0_mendBetween_89.2.2.2) (Nat.le_of_ble_eq_true rfl) (Nat.le_of_ble_eq_true rfl) (Nat.zero_le _) (Nat.zero_le _) e20 kI_0 dX0_mendBetween_36 (fun z21 e21 => ?_)
  refine lv_istore hx hb dX0_mendBetween_39 hl (by decide) rfl (fun ls hl => ?_)
  have hl : lv_has ls 8 [(7, .int z21), (6, .int z19), (5, .int z15), (0, .ref g), (1, .int x), (2, .int y), (3, .ref o), (4, .int z)] := hl
  exact cut41 (((b - (max (a + (1 : Int)) (0 : Int))).toNat) + 1) z15 ((cordZ d a) - (cordZ u (a + f))) e15 z19 ((cordZ d b) - (cordZ u (b + f))) e19 z21 (max (a + (1 : Int)) (0 : Int)) e21 (Nat.lt_succ_self _) rfl rfl (by omega) _ _ (hG.to (by rw [mdK_0 (by omega), mdV_0 (by omega)])) hO hS ls (lv_sub hl [3, 4, 5, 6, 7, 2, 1, 0] rfl)
