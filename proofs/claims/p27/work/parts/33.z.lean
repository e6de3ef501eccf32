abbrev rmJ7_fill_53178 : Room := { frames := 0, cells := 0, slots := 0, locals := 0 }
theorem hyJ7_fill_53178 : yJ7_fill_53178.cls ≠ "java/lang/invoke/MethodHandle" ∧ yJ7_fill_53178.cls ≠ "java/lang/invoke/VarHandle" ∧ (parseMethodDescriptor yJ7_fill_53178.desc).map (fun d => d.parameters.length) = some 2 := by decide +kernel
set_option maxHeartbeats 2000000 in
set_option maxRecDepth 100000 in
theorem kJ7_fill_53178 (l : Launch) (G : xG) (a : Nat) (f : Nat → Int32) (u0 : Nat) (n0 : Nat) (x : Int32) (v : Int) (e_x : x.toInt = v) : Met l yJ7_fill_53178 wsJ7_fill_53178 rmJ7_fill_53178 (va_Pc [.ref a, .int x] (zPre G (fun H => RWA G H a f ∧ ZS H n0))) (zV (fun H => RWA G H a (flK x f 120) ∧ ZS H n0) (iv a 1)) 0 0 (iv a 1) := by
  refine z_ofWF (cc := cJ7_fill_53178) (maxL := 4) (ret := none) (by decide +kernel) rfl (Nat.le_of_ble_eq_true rfl) ?_
  intro p e s m below meth c hx hb hml hr hts hown hlocks hK hP ls hl
  obtain ⟨hR, hZ⟩ := hP
  have hown : s.vm.findClass RJ7 = some m.cls := hown
  have hl : lv_has ls 4 [(0, .ref a), (1, .int x)] := hl
  have hS : va_S (iv a 1) s.heap s.heap [] := va_S.rf
  refine lv_iconst (v := (0 : Int32)) hx hb dJ7_fill_53178_0 (by decide) ?_
  refine lv_istore_n hx hb dJ7_fill_53178_1 rfl hl (by decide) rfl (fun ls hl => ?_)
  have hl : lv_has ls 4 [(2, .int (0 : Int32)), (0, .ref a), (1, .int x)] := hl
  refine lv_aload_n hx hb dJ7_fill_53178_2 rfl (lv_at hl 1 rfl) ?_
  refine z_alen hx hb hK 0 hR rfl (v := (120 : Int32)) rfl dJ7_fill_53178_3 ?_
  refine lv_istore_n hx hb dJ7_fill_53178_4 rfl hl (by decide) rfl (fun ls hl => ?_)
  have hl : lv_has ls 4 [(3, .int (120 : Int32)), (2, .int (0 : Int32)), (0, .ref a), (1, .int x)] := hl
  have cut5 : ∀ (n5 : Nat), ∀ (x2 : Int32) (i2 : Int) (_ : x2.toInt = i2), (120 - i2).toNat < n5 → (0 ≤ i2 ∧ i2 ≤ 120) → ∀ (H : Heap) (locs : List Loc), RWA G H a (flK x f i2) → ZS H n0 → va_S (iv a 1) s.heap H locs → ∀ ls : Array Slot, lv_has ls 4 [(0, .ref a), (1, .int x), (3, .int (120 : Int32)), (2, .int x2)] → W p l e rmJ7_fill_53178 s m ([.ref a, .int x] : List Value).toArray below meth c H locs 0 0 (MQ below (zV (fun H => RWA G H a (flK x f 120) ∧ ZS H n0) (iv a 1)) ([.ref a, .int x] : List Value).toArray s 0 0 (iv a 1)) (F0 m 5 ls []) := by
    intro n5
    induction n5 with
    | zero =>
      intro x2 i2 hx2 hmu5 hi5_0 H locs hR hZ hS ls hl
      exact absurd hmu5 (Nat.not_lt_zero _)
    | succ n5 ih5 =>
      intro x2 i2 hx2 hmu5 hi5_0 H locs hR hZ hS ls hl
      refine lv_iload_n hx hb dJ7_fill_53178_5 rfl (lv_at hl 3 rfl) ?_
      refine lv_iload_n hx hb dJ7_fill_53178_6 rfl (lv_at hl 2 rfl) ?_
      refine z_icmp_ge (tgt := 20) hx hb hx2 kI_120 dJ7_fill_53178_7 (by decide) (fun c_1 => ?_) (fun c_1 => ?_)
      · exact z_rv hx hb hr hlocks ⟨hR.to (by rw [show i2 = 120 by omega]), hZ⟩ hS dJ7_fill_53178_20
      · refine lv_aload_n hx hb dJ7_fill_53178_10 rfl (lv_at hl 0 rfl) ?_
        refine lv_iload_n hx hb dJ7_fill_53178_11 rfl (lv_at hl 3 rfl) ?_
        refine lv_iload_n hx hb dJ7_fill_53178_12 rfl (lv_at hl 1 rfl) ?_
        refine z_iastR hx hb hK hR hS (by simp only [iv]; omega) hx2 (by omega) dJ7_fill_53178_13 (fun H locs hR hsz hq hS => ?_)
        have hR : RWA G H a (upd (flK x f i2) i2.toNat x) := hR
        have hZ : ZS H n0 := hsz.trans hZ
        refine z_iinc (k := 3) hx hb dJ7_fill_53178_14 hl rfl hx2 (show (Int32.ofInt 1).toInt = (1 : Int) from rfl) (by omega) (by decide) (fun z2 e2 ls hl => ?_)
        have hl : lv_has ls 4 [(2, .int z2), (0, .ref a), (1, .int x), (3, .int (120 : Int32))] := hl
        refine lv_goto (tgt := 5) hx hb dJ7_fill_53178_17 (by decide) ?_
        exact ih5 z2 (i2 + (1 : Int)) e2 (by omega) (by omega) _ _ (hR.to (by rw [flK_s (by omega)])) hZ hS ls (lv_sub hl [1, 2, 3, 0] rfl)
  exact cut5 (((120 - (0 : Int)).toNat) + 1) (0 : Int32) (0 : Int) kI_0 (Nat.lt_succ_self _) (by omega) _ _ (hR.to (by rw [flK_0 (by omega)])) hZ hS ls (lv_sub hl [2, 3, 0, 1] rfl)

abbrev rmX3_becomeS : Room := { frames := 0, cells := 0, slots := 0, locals := 0 }
theorem iwX3_becomeS_3 : ∀ w ∈ wsX30, w ∈ wsX3_become := fun _ h => List.mem_cons_of_mem _ (List.mem_append_right _ h)
theorem flX3_becomeS_13 : Cond.fieldLink RX3 13 "SiltedFloats$Wave" "amplitude" "I" ∈ wsX3_become := by decide +kernel
theorem flX3_becomeS_17 : Cond.fieldLink RX3 17 "SiltedFloats$Wave" "period" "I" ∈ wsX3_become := by decide +kernel
theorem flX3_becomeS_20 : Cond.fieldLink RX3 20 "SiltedFloats$Wave" "phase" "I" ∈ wsX3_become := by decide +kernel
set_option maxHeartbeats 2000000 in
set_option maxRecDepth 100000 in
theorem kX3_becomeS (l : Launch) (G : xG) (w : Nat) (v0 : Nat → Int32) (u0 : Nat) (n0 : Nat) (x : Int32) (a : Int) (e_x : x.toInt = a) (y : Int32) (b : Int) (e_y : y.toInt = b) (z : Int32) (k : Int) (e_z : z.toInt = k) : Met l yX3_become wsX3_become rmX3_becomeS (va_Pc [.ref w, .int x, .int y, .int z] (zPre G (fun H => WV G H w v0 ∧ ZS H n0))) (zV (fun H => WV G H w (upd (upd (upd v0 0 x) 1 y) 2 z) ∧ ZS H n0) (iv w 1)) 0 0 (iv w 1) := by
  refine z_ofW (cc := cX3_become) (maxL := 4) (ret := none) (by decide +kernel) rfl (Nat.le_of_ble_eq_true rfl) ?_
  intro p e s m below meth c hx hb hml hr hts hown hlocks hK hP ls hl
  obtain ⟨hV, hZ⟩ := hP
  have hown : s.vm.findClass RX3 = some m.cls := hown
  have hl : lv_has ls 4 [(0, .ref w), (1, .int x), (2, .int y), (3, .int z)] := hl
  have hS : va_S (iv w 1) s.heap s.heap [] := va_S.rf
  refine lv_aload_n hx hb dX3_become_0 rfl (lv_at hl 0 rfl) ?_
  refine lv_iload_n hx hb dX3_become_1 rfl (lv_at hl 1 rfl) ?_
  refine z_putW hx hb hts iwX3_becomeS_3 hown hK hV hS (by simp only [iv]; omega) 0 (by decide) flX3_becomeS_13 rfl rfl (ty := .int) rfl rfl rfl dX3_become_2 (fun H locs hV hsz hq hS => ?_)
  have hV : WV G H w (upd v0 0 x) := hV
  have hZ : ZS H n0 := hsz.trans hZ
  refine lv_aload_n hx hb dX3_become_5 rfl (lv_at hl 0 rfl) ?_
  refine lv_iload_n hx hb dX3_become_6 rfl (lv_at hl 2 rfl) ?_
  refine z_putW hx hb hts iwX3_becomeS_3 hown hK hV hS (by simp only [iv]; omega) 1 (by decide) flX3_becomeS_17 rfl rfl (ty := .int) rfl rfl rfl dX3_become_7 (fun H locs hV hsz hq hS => ?_)
  have hV : WV G H w (upd (upd v0 0 x) 1 y) := hV
  have hZ : ZS H n0 := hsz.trans hZ
  refine lv_aload_n hx hb dX3_become_10 rfl (lv_at hl 0 rfl) ?_
  refine lv_iload_n hx hb dX3_become_11 rfl (lv_at hl 3 rfl) ?_
  refine z_putW hx hb hts iwX3_becomeS_3 hown hK hV hS (by simp only [iv]; omega) 2 (by decide) flX3_becomeS_20 rfl rfl (ty := .int) rfl rfl rfl dX3_become_12 (fun H locs hV hsz hq hS => ?_)
  have hV : WV G H w (upd (upd (upd v0 0 x) 1 y) 2 z) := hV
  have hZ : ZS H n0 := hsz.trans hZ
  exact z_rv hx hb hr hlocks (by first | exact ⟨hV, hZ⟩) hS dX3_become_15

abbrev rmX0_becomeB : Room := { frames := 0, cells := 0, slots := 0, locals := 0 }
theorem iwX0_becomeB_0 : ∀ w ∈ wsX00, w ∈ wsX0_become := fun _ h => List.mem_cons_of_mem _ (List.mem_append_right _ h)
theorem flX0_becomeB_39 : Cond.fieldLink RX0 39 "SiltedFloats$Gauge" "delay" "I" ∈ wsX0_become := by decide +kernel
theorem flX0_becomeB_42 : Cond.fieldLink RX0 42 "SiltedFloats$Gauge" "scale" "I" ∈ wsX0_become := by decide +kernel
theorem flX0_becomeB_45 : Cond.fieldLink RX0 45 "SiltedFloats$Gauge" "offset" "I" ∈ wsX0_become := by decide +kernel
set_option maxHeartbeats 2000000 in
set_option maxRecDepth 100000 in
theorem kX0_becomeB (l : Launch) (G : xG) (g : Nat) (f : Nat → Int32) (u0 : Nat) (n0 : Nat) (x : Int32) (a : Int) (e_x : x.toInt = a) (y : Int32) (b : Int) (e_y : y.toInt = b) (z : Int32) (k : Int) (e_z : z.toInt = k) : Met l yX0_become wsX0_become rmX0_becomeB (va_Pc [.ref g, .int x, .int y, .int z] (zPre G (fun H => BG G H g f ∧ ZS H n0))) (zV (fun H => BG G H g (upd (upd (upd f 0 x) 1 y) 2 z) ∧ ZS H n0) (iv g 1)) 0 0 (iv g 1) := by
  refine z_ofW (cc := cX0_become) (maxL := 4) (ret := none) (by decide +kernel) rfl (Nat.le_of_ble_eq_true rfl) ?_
  intro p e s m below meth c hx hb hml hr hts hown hlocks hK hP ls hl
  obtain ⟨hB, hZ⟩ := hP
  have hown : s.vm.findClass RX0 = some m.cls := hown
  have hl : lv_has ls 4 [(0, .ref g), (1, .int x), (2, .int y), (3, .int z)] := hl
  have hS : va_S (iv g 1) s.heap s.heap [] := va_S.rf
  refine lv_aload_n hx hb dX0_become_0 rfl (lv_at hl 0 rfl) ?_
  refine lv_iload_n hx hb dX0_become_1 rfl (lv_at hl 1 rfl) ?_
  refine z_putB hx hb hts iwX0_becomeB_0 hown hK hB hS (by simp only [iv]; omega) 0 (by decide) flX0_becomeB_39 rfl rfl (ty := .int) rfl rfl rfl dX0_become_2 (fun H locs hB hsz hq hS => ?_)
  have hB : BG G H g (upd f 0 x) := hB
  have hZ : ZS H n0 := hsz.trans hZ
  refine lv_aload_n hx hb dX0_become_5 rfl (lv_at hl 0 rfl) ?_
  refine lv_iload_n hx hb dX0_become_6 rfl (lv_at hl 2 rfl) ?_
  refine z_putB hx hb hts iwX0_becomeB_0 hown hK hB hS (by simp only [iv]; omega) 1 (by decide) flX0_becomeB_42 rfl rfl (ty := .int) rfl rfl rfl dX0_become_7 (fun H locs hB hsz hq hS => ?_)
  have hB : BG G H g (upd (upd f 0 x) 1 y) := hB
  have hZ : ZS H n0 := hsz.trans hZ
  refine lv_aload_n hx hb dX0_become_10 rfl (lv_at hl 0 rfl) ?_
  refine lv_iload_n hx hb dX0_become_11 rfl (lv_at hl 3 rfl) ?_
  refine z_putB hx hb hts iwX0_becomeB_0 hown hK hB hS (by simp only [iv]; omega) 2 (by decide) flX0_becomeB_45 rfl rfl (ty := .int) rfl rfl rfl dX0_become_12 (fun H locs hB hsz hq hS => ?_)
  have hB : BG G H g (upd (upd (upd f 0 x) 1 y) 2 z) := hB
  have hZ : ZS H n0 := hsz.trans hZ
  exact z_rv hx hb hr hlocks (by first | exact ⟨hB, hZ⟩) hS dX0_become_15

abbrev rmX2_seaAtP : Room := { frames := 2, cells := 0, slots := 0, locals := 45 }
theorem iwX2_seaAtP_2 : ∀ w ∈ wsX20, w ∈ wsX2_seaAt := fun _ h => List.mem_cons_of_mem _ (List.mem_append_left _ (List.mem_append_right _ h))
theorem flX2_seaAtP_11 : Cond.fieldLink RX2 11 "SiltedFloats$State" "waves" "[LSiltedFloats$Wave;" ∈ wsX2_seaAt := by decide +kernel
set_option maxHeartbeats 2000000 in
set_option maxRecDepth 100000 in
theorem kX2_seaAtP (l : Launch) (G : xG) (t : Nat) (ω : WD) (x : Int32) (h : Int) (e_x : x.toInt = h) (hw : ∀ i, i < 3 → waveOk (ω.2 i)) (hh : -1000 ≤ h ∧ h ≤ 1000) : Met l yX2_seaAt wsX2_seaAt rmX2_seaAtP (va_Pc [.ref t, .int x] (zPre G (fun H => SW G H t ω))) (zS (fun v => v.toInt = seaZ ω.2 h)) 0 0 zno := by
  refine z_ofW (cc := cX2_seaAt) (maxL := 4) (ret := some .int) (by decide +kernel) rfl (Nat.le_of_ble_eq_true rfl) ?_
  intro p e s m below meth c hx hb hml hr hts hown hlocks hK hP ls hl
  have hT := hP
  have hown : s.vm.findClass RX2 = some m.cls := hown
  have hl : lv_has ls 4 [(0, .ref t), (1, .int x)] := hl
  have cut4 : ∀ (n4 : Nat), ∀ (x2 : Int32) (i2 : Int) (_ : x2.toInt = i2) (x3 : Int32) (i3 : Int) (_ : x3.toInt = i3), (3 - i3).toNat < n4 → (0 ≤ i3 ∧ i3 ≤ 3) → (i2 = seaN ω.2 h i3.toNat) → ∀ ls : Array Slot, lv_has ls 4 [(0, .ref t), (1, .int x), (2, .int x2), (3, .int x3)] → W p l e rmX2_seaAtP s m ([.ref t, .int x] : List Value).toArray below meth c s.heap [] 0 0 (MQ below (zS (fun v => v.toInt = seaZ ω.2 h)) ([.ref t, .int x] : List Value).toArray s 0 0 zno) (F0 m 4 ls []) := by
    intro n4
    induction n4 with
    | zero =>
      intro x2 i2 hx2 x3 i3 hx3 hmu4 hi4_0 hi4_1 ls hl
      exact absurd hmu4 (Nat.not_lt_zero _)
    | succ n4 ih4 =>
      intro x2 i2 hx2 x3 i3 hx3 hmu4 hi4_0 hi4_1 ls hl
      have hsb := seaN_b hw h i3.toNat (by omega)
      have hss := seaN_s (W := ω.2) (h := h) (i := i3) (by omega)
      refine lv_iload_n hx hb dX2_seaAt_4 rfl (lv_at hl 3 rfl) ?_
      refine lv_iconst (v := (3 : Int32)) hx hb dX2_seaAt_5 (by decide) ?_
      refine z_icmp_ge (tgt := 28) hx hb hx3 kI_3 dX2_seaAt_6 (by decide) (fun c_1 => ?_) (fun c_1 => ?_)
      · refine lv_iload_n hx hb dX2_seaAt_28 rfl (lv_at hl 2 rfl) ?_
        exact z_ri (v := x2) hx hb hr hlocks (show x2.toInt = seaZ ω.2 h from (by rw [hx2, hi4_1, show i3 = 3 by omega]; rfl)) dX2_seaAt_29
      · have hwb := waveZ_b (hw i3.toNat (by omega)) h
        refine lv_iload_n hx hb dX2_seaAt_9 rfl (lv_at hl 2 rfl) ?_
        refine lv_aload_n hx hb dX2_seaAt_10 rfl (lv_at hl 0 rfl) ?_
        refine z_get hx hb hts iwX2_seaAtP_2 hown hK hT.1 rfl 1 (by decide) flX2_seaAtP_11 rfl (v := .ref (t + 1)) rfl dX2_seaAt_11 ?_
        refine lv_iload_n hx hb dX2_seaAt_14 rfl (lv_at hl 3 rfl) ?_
        have hV2 : WV G s.heap (t + 2 + i3.toNat) (ω.2 i3.toNat) := hT.wave (i := i3.toNat) (by omega)
        refine z_aald (b := t + 2 + i3.toNat) hx hb hK 2 hT.2.1 rfl hx3 (by omega) rfl dX2_seaAt_15 ?_
        refine lv_iload_n hx hb dX2_seaAt_16 rfl (lv_at hl 1 rfl) ?_
        refine z_cV (As := [.int x]) (rest := [.int x2]) ⟨hx, hb, hml, hown, hts⟩ (kX3_heightAt l G (t + 2 + i3.toNat) (ω.2 i3.toNat) x h e_x (hw i3.toNat (by omega)) (by first | assumption | omega)) (cwV 1 hts gX2_seaAt_X3_heightAt rfl rfl rfl hyX3_heightAt ⟨Nat.le_of_ble_eq_true rfl, Nat.le_of_ble_eq_true rfl⟩) hK hV2 hV2 rfl rfl hl.1 rfl (Nat.le_of_ble_eq_true rfl) dX2_seaAt_17 ⟨Nat.zero_le _, Nat.zero_le _⟩ (fun z3 e3 => ?_)
        have e3 : z3.toInt = waveZ (ω.2 i3.toNat) h := e3
        refine z_iadd hx hb hx2 e3 dX2_seaAt_20 (by omega) (fun z4 e4 => ?_)
        refine lv_istore_n hx hb dX2_seaAt_21 rfl hl (by decide) rfl (fun ls hl => ?_)
        have hl : lv_has ls 4 [(2, .int z4), (0, .ref t), (1, .int x), (3, .int x3)] := hl
        refine z_iinc (k := 3) hx hb dX2_seaAt_22 hl rfl hx3 (show (Int32.ofInt 1).toInt = (1 : Int) from rfl) (by omega) (by decide) (fun z5 e5 ls hl => ?_)
        have hl : lv_has ls 4 [(3, .int z5), (2, .int z4), (0, .ref t), (1, .int x)] := hl
        refine lv_goto (tgt := 4) hx hb dX2_seaAt_25 (by decide) ?_
        exact ih4 z4 (i2 + (waveZ (ω.2 i3.toNat) h)) e4 z5 (i3 + (1 : Int)) e5 (by omega) (by omega) (by rw [hss]; omega) ls (lv_sub hl [2, 3, 1, 0] rfl)
  refine lv_iconst (v := (0 : Int32)) hx hb dX2_seaAt_0 (by decide) ?_
  refine lv_istore_n hx hb dX2_seaAt_1 rfl hl (by decide) rfl (fun ls hl => ?_)
  have hl : lv_has ls 4 [(2, .int (0 : Int32)), (0, .ref t), (1, .int x)] := hl
  refine lv_iconst (v := (0 : Int32)) hx hb dX2_seaAt_2 (by decide) ?_
  refine lv_istore_n hx hb dX2_seaAt_3 rfl hl (by decide) rfl (fun ls hl => ?_)
  have hl : lv_has ls 4 [(3, .int (0 : Int32)), (2, .int (0 : Int32)), (0, .ref t), (1, .int x)] := hl
  exact cut4 (((3 - (0 : Int)).toNat) + 1) (0 : Int32) (0 : Int) kI_0 (0 : Int32) (0 : Int) kI_0 (Nat.lt_succ_self _) (by omega) rfl ls (lv_sub hl [2, 3, 1, 0] rfl)

abbrev rmX2_waterAtP : Room := { frames := 3, cells := 0, slots := 0, locals := 68 }
theorem iwX2_waterAtP_0 : ∀ w ∈ wsX00, w ∈ wsX2_waterAt := fun _ h => List.mem_cons_of_mem _ (List.mem_append_left _ (List.mem_append_left _ (List.mem_append_right _ h)))
theorem flX2_waterAtP_56 : Cond.fieldLink RX2 56 "SiltedFloats$Gauge" "scale" "I" ∈ wsX2_waterAt := by decide +kernel
theorem flX2_waterAtP_59 : Cond.fieldLink RX2 59 "SiltedFloats$Gauge" "delay" "I" ∈ wsX2_waterAt := by decide +kernel
theorem flX2_waterAtP_71 : Cond.fieldLink RX2 71 "SiltedFloats$Gauge" "offset" "I" ∈ wsX2_waterAt := by decide +kernel
set_option maxHeartbeats 2000000 in
set_option maxRecDepth 100000 in
theorem kX2_waterAtP (l : Launch) (G : xG) (t : Nat) (ω : WD) (g : Nat) (d : GD) (y : Int32) (h : Int) (e_y : y.toInt = h) (hw : ∀ i, i < 3 → waveOk (ω.2 i)) (hg : staOk d) (hh : -500 ≤ h ∧ h ≤ 500) : Met l yX2_waterAt wsX2_waterAt rmX2_waterAtP (va_Pc [.ref t, .ref g, .int y] (zPre G (fun H => SW G H t ω ∧ GA G H g d))) (zS (fun v => v.toInt = watZ ω.2 d h)) 0 0 zno := by
  refine z_ofW (cc := cX2_waterAt) (maxL := 3) (ret := some .int) (by decide +kernel) rfl (Nat.le_of_ble_eq_true rfl) ?_
  intro p e s m below meth c hx hb hml hr hts hown hlocks hK hP ls hl
  obtain ⟨hT, hG⟩ := hP
  have hown : s.vm.findClass RX2 = some m.cls := hown
  have hl : lv_has ls 3 [(0, .ref t), (1, .ref g), (2, .int y)] := hl
  have hg1 := id hg
  unfold staOk at hg1
  have hwp := watZ_p hw hg (h - (d.1 0).toInt)
  refine lv_aload_n hx hb dX2_waterAt_0 rfl (lv_at hl 1 rfl) ?_
  refine z_get hx hb hts iwX2_waterAtP_0 hown hK hG.1 rfl 1 (by decide) flX2_waterAtP_56 rfl (v := .int (d.1 1)) rfl dX2_waterAt_1 ?_
  refine lv_aload_n hx hb dX2_waterAt_4 rfl (lv_at hl 0 rfl) ?_
  refine lv_iload_n hx hb dX2_waterAt_5 rfl (lv_at hl 2 rfl) ?_
  refine lv_aload_n hx hb dX2_waterAt_6 rfl (lv_at hl 1 rfl) ?_
  refine z_get hx hb hts iwX2_waterAtP_0 hown hK hG.1 rfl 0 (by decide) flX2_waterAtP_59 rfl (v := .int (d.1 0)) rfl dX2_waterAt_7 ?_
  refine z_isub hx hb e_y rfl dX2_waterAt_10 (by omega) (fun z1 e1 => ?_)
  refine z_cV (As := [.int z1]) (rest := [.int (d.1 1)]) ⟨hx, hb, hml, hown, hts⟩ (kX2_seaAtP l G t ω z1 (h - ((d.1 0).toInt)) e1 hw (by first | assumption | omega)) (cwV 1 hts gX2_waterAt_X2_seaAt rfl rfl rfl hyX2_seaAt ⟨Nat.le_of_ble_eq_true rfl, Nat.le_of_ble_eq_true rfl⟩) hK hT hT.1 rfl rfl hl.1 rfl (Nat.le_of_ble_eq_true rfl) dX2_waterAt_11 ⟨Nat.zero_le _, Nat.zero_le _⟩ (fun z2 e2 => ?_)
  have e2 : z2.toInt = seaZ ω.2 (h - ((d.1 0).toInt)) := e2
  refine z_imul hx hb rfl e2 dX2_waterAt_14 (by omega) (fun z3 e3 => ?_)
  refine lv_bipush (v := (100 : Int32)) hx hb dX2_waterAt_15 (by decide) ?_
  refine z_cS (As := [.int z3, .int (100 : Int32)]) (rest := []) ⟨hx, hb, hml, hown, hts⟩ (kJ9_floorDiv_7cf53 l G z3 (((d.1 1).toInt) * (seaZ ω.2 (h - ((d.1 0).toInt)))) e3 (100 : Int32) (100 : Int) kI_100 (by first | assumption | omega)) (va_cwS 2 hts gX2_waterAt_J9_floorDiv_7cf53 rfl rfl rfl hyJ9_floorDiv_7cf53 ⟨Nat.le_of_ble_eq_true rfl, Nat.le_of_ble_eq_true rfl⟩) hK trivial rfl hl.1 rfl (Nat.le_of_ble_eq_true rfl) dX2_waterAt_17 ⟨Nat.zero_le _, Nat.zero_le _⟩ (fun z4 e4 => ?_)
  have e4 : z4.toInt = (((d.1 1).toInt) * (seaZ ω.2 (h - ((d.1 0).toInt)))) / (100 : Int) := e4
  refine lv_aload_n hx hb dX2_waterAt_20 rfl (lv_at hl 1 rfl) ?_
  refine z_get hx hb hts iwX2_waterAtP_0 hown hK hG.1 rfl 2 (by decide) flX2_waterAtP_71 rfl (v := .int (d.1 2)) rfl dX2_waterAt_21 ?_
  refine z_iadd hx hb e4 rfl dX2_waterAt_24 (by omega) (fun z5 e5 => ?_)
  exact z_ri (v := z5) hx hb hr hlocks (show z5.toInt = watZ ω.2 d h from (by rw [e5]; rfl)) dX2_waterAt_25

abbrev rmX2_settleFloatP : Room := { frames := 4, cells := 0, slots := 0, locals := 90 }
theorem iwX2_settleFloatP_0 : ∀ w ∈ wsX00, w ∈ wsX2_settleFloat := fun _ h => List.mem_cons_of_mem _ (List.mem_append_left _ (List.mem_append_left _ (List.mem_append_right _ h)))
theorem flX2_settleFloatP_78 : Cond.fieldLink RX2 78 "SiltedFloats$Gauge" "floatLevel" "I" ∈ wsX2_settleFloat := by decide +kernel
set_option maxHeartbeats 2000000 in
set_option maxRecDepth 100000 in
theorem kX2_settleFloatP (l : Launch) (G : xG) (t : Nat) (ω : WD) (g : Nat) (d : GD) (u0 : Nat) (n0 : Nat) (hw : ∀ i, i < 3 → waveOk (ω.2 i)) (hg : staOk d) (hap : t + 5 ≤ g) : Met l yX2_settleFloat wsX2_settleFloat rmX2_settleFloatP (va_Pc [.ref t, .ref g] (zPre G (fun H => SW G H t ω ∧ GA G H g d ∧ ZS H n0))) (zV (fun H => SW G H t ω ∧ GA G H g (sfG ω.2 d) ∧ ZS H n0) (iv g 4)) 0 0 (iv g 4) := by
  refine z_ofW (cc := cX2_settleFloat) (maxL := 2) (ret := none) (by decide +kernel) rfl (Nat.le_of_ble_eq_true rfl) ?_
  intro p e s m below meth c hx hb hml hr hts hown hlocks hK hP ls hl
  obtain ⟨hT, hG, hZ⟩ := hP
  have hown : s.vm.findClass RX2 = some m.cls := hown
  have hl : lv_has ls 2 [(0, .ref t), (1, .ref g)] := hl
  have hS : va_S (iv g 4) s.heap s.heap [] := va_S.rf
  refine lv_aload_n hx hb dX2_settleFloat_0 rfl (lv_at hl 1 rfl) ?_
  refine lv_aload_n hx hb dX2_settleFloat_1 rfl (lv_at hl 0 rfl) ?_
  refine lv_aload_n hx hb dX2_settleFloat_2 rfl (lv_at hl 1 rfl) ?_
  refine lv_iconst (v := (0 : Int32)) hx hb dX2_settleFloat_3 (by decide) ?_
  refine z_cV (As := [.ref g, .int (0 : Int32)]) (rest := [.ref g]) ⟨hx, hb, hml, hown, hts⟩ (kX2_waterAtP l G t ω g d (0 : Int32) (0 : Int) kI_0 (by first | assumption | omega) (by first | assumption | omega) (by first | assumption | omega)) (cwV 2 hts gX2_settleFloat_X2_waterAt rfl rfl rfl hyX2_waterAt ⟨Nat.le_of_ble_eq_true rfl, Nat.le_of_ble_eq_true rfl⟩) hK ⟨hT, hG⟩ hT.1 rfl rfl hl.1 rfl (Nat.le_of_ble_eq_true rfl) dX2_settleFloat_4 ⟨Nat.zero_le _, Nat.zero_le _⟩ (fun z1 e1 => ?_)
  have e1 : z1.toInt = watZ ω.2 d (0 : Int) := e1
  refine z_putG hx hb hts iwX2_settleFloatP_0 hown hK hG hS (by simp only [iv]; omega) 3 (by decide) flX2_settleFloatP_78 rfl rfl (ty := .int) rfl rfl rfl dX2_settleFloat_7 (fun H locs hG hsz hq hS => ?_)
  have hG : GA G H g (upd d.1 3 z1, d.2.1, d.2.2.1, d.2.2.2) := hG
  have hT := hT.kept (fun q h1 h2 => hq q (by omega))
  have hZ : ZS H n0 := hsz.trans hZ
  exact z_rv hx hb hr hlocks ⟨hT, hG.to (by unfold sfG; rw [← zi_eqOf e1]), hZ⟩ hS dX2_settleFloat_10
