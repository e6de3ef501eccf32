abbrev rmX2_seaAt : Room := { frames := 2, cells := 0, slots := 0, locals := 45 }
theorem iwX2_seaAt_2 : ∀ w ∈ wsX20, w ∈ wsX2_seaAt := fun _ h => List.mem_cons_of_mem _ (List.mem_append_left _ (List.mem_append_right _ h))
theorem flX2_seaAt_11 : Cond.fieldLink RX2 11 "SiltedFloats$State" "waves" "[LSiltedFloats$Wave;" ∈ wsX2_seaAt := by decide +kernel
theorem hyX2_seaAt : yX2_seaAt.cls = RX2 ∧ yX2_seaAt.cls ≠ "java/lang/invoke/MethodHandle" ∧ yX2_seaAt.cls ≠ "java/lang/invoke/VarHandle" ∧ (parseMethodDescriptor yX2_seaAt.desc).map (fun d => d.parameters.length) = some 1 := by decide +kernel
set_option maxHeartbeats 4000000 in
set_option maxRecDepth 100000 in
theorem kX2_seaAt (l : Launch) (G : xG) (t : Nat) (σ : SD) (x : Int32) (h : Int) (e_x : x.toInt = h) (hw : ∀ i, i < 3 → waveOk (σ.2.1 i)) (hh : -1000 ≤ h ∧ h ≤ 1000) : Met l yX2_seaAt wsX2_seaAt rmX2_seaAt (va_Pc [.ref t, .int x] (zPre G (fun H => ST G H t σ))) (zS (fun v => v.toInt = seaZ σ.2.1 h)) 0 0 zno := by
  refine z_ofW (cc := cX2_seaAt) (maxL := 4) (ret := some .int) (by decide +kernel) rfl (Nat.le_of_ble_eq_true rfl) ?_
  intro p e s m below meth c hx hb hml hr hts hown hlocks hK hP ls hl
  have hT := hP
  have hown : s.vm.findClass RX2 = some m.cls := hown
  have hl : lv_has ls 4 [(0, .ref t), (1, .int x)] := hl
  have cut4 : ∀ (n4 : Nat), ∀ (x2 : Int32) (i2 : Int) (_ : x2.toInt = i2) (x3 : Int32) (i3 : Int) (_ : x3.toInt = i3), (3 - i3).toNat < n4 → (0 ≤ i3 ∧ i3 ≤ 3) → (i2 = seaN σ.2.1 h i3.toNat) → ∀ ls : Array Slot, lv_has ls 4 [(0, .ref t), (1, .int x), (2, .int x2), (3, .int x3)] → W p l e rmX2_seaAt s m ([.ref t, .int x] : List Value).toArray below meth c s.heap [] 0 0 (MQ below (zS (fun v => v.toInt = seaZ σ.2.1 h)) ([.ref t, .int x] : List Value).toArray s 0 0 zno) (F0 m 4 ls []) := by
    intro n4
    induction n4 with
    | zero =>
      intro x2 i2 hx2 x3 i3 hx3 hmu4 hi4_0 hi4_1 ls hl
      exact absurd hmu4 (Nat.not_lt_zero _)
    | succ n4 ih4 =>
      intro x2 i2 hx2 x3 i3 hx3 hmu4 hi4_0 hi4_1 ls hl
      have hsb := seaN_b hw h i3.toNat (by omega)
      have hss := seaN_s (W := σ.2.1) (h := h) (i := i3) (by omega)
      refine lv_iload_n hx hb dX2_seaAt_4 rfl (lv_at hl 3 rfl) ?_
      refine lv_iconst (v := (3 : Int32)) hx hb dX2_seaAt_5 (by decide) ?_
      refine z_icmp_ge (tgt := 28) hx hb hx3 kI_3 dX2_seaAt_6 (by decide) (fun c_1 => ?_) (fun c_1 => ?_)
      · refine lv_iload_n hx hb dX2_seaAt_28 rfl (lv_at hl 2 rfl) ?_
        exact z_ri (v := x2) hx hb hr hlocks (show x2.toInt = seaZ σ.2.1 h from (by rw [hx2, hi4_1, show i3 = 3 by omega]; rfl)) dX2_seaAt_29
      · have hwb := waveZ_b (hw i3.toNat (by omega)) h
        refine lv_iload_n hx hb dX2_seaAt_9 rfl (lv_at hl 2 rfl) ?_
        refine lv_aload_n hx hb dX2_seaAt_10 rfl (lv_at hl 0 rfl) ?_
        refine z_get hx hb hts iwX2_seaAt_2 hown hK hT.1 rfl 1 (by decide) flX2_seaAt_11 rfl (v := .ref (t + 1)) rfl dX2_seaAt_11 ?_
        refine lv_iload_n hx hb dX2_seaAt_14 rfl (lv_at hl 3 rfl) ?_
        have hV2 : WV G s.heap (t + 2 + i3.toNat) (σ.2.1 i3.toNat) := hT.wave (i := i3.toNat) (by omega)
        refine z_aald (b := t + 2 + i3.toNat) hx hb hK 2 hT.2.1 rfl hx3 (by omega) rfl dX2_seaAt_15 ?_
        refine lv_iload_n hx hb dX2_seaAt_16 rfl (lv_at hl 1 rfl) ?_
        refine z_cV (As := [.int x]) (rest := [.int x2]) ⟨hx, hb, hml, hown, hts⟩ (kX3_heightAt l G (t + 2 + i3.toNat) (σ.2.1 i3.toNat) x h e_x (hw i3.toNat (by omega)) (by first | assumption | omega)) (cwV 1 hts gX2_seaAt_X3_heightAt rfl rfl rfl hyX3_heightAt ⟨Nat.le_of_ble_eq_true rfl, Nat.le_of_ble_eq_true rfl⟩) hK hV2 hV2 rfl rfl hl.1 rfl (Nat.le_of_ble_eq_true rfl) dX2_seaAt_17 ⟨Nat.zero_le _, Nat.zero_le _⟩ (fun z3 e3 => ?_)
        have e3 : z3.toInt = waveZ (σ.2.1 i3.toNat) h := e3
        refine z_iadd hx hb hx2 e3 dX2_seaAt_20 (by omega) (fun z4 e4 => ?_)
        refine lv_istore_n hx hb dX2_seaAt_21 rfl hl (by decide) rfl (fun ls hl => ?_)
        have hl : lv_has ls 4 [(2, .int z4), (0, .ref t), (1, .int x), (3, .int x3)] := hl
        refine z_iinc (k := 3) hx hb dX2_seaAt_22 hl rfl hx3 (show (Int32.ofInt 1).toInt = (1 : Int) from rfl) (by omega) (by decide) (fun z5 e5 ls hl => ?_)
        have hl : lv_has ls 4 [(3, .int z5), (2, .int z4), (0, .ref t), (1, .int x)] := hl
        refine lv_goto (tgt := 4) hx hb dX2_seaAt_25 (by decide) ?_
        exact ih4 z4 (i2 + (waveZ (σ.2.1 i3.toNat) h)) e4 z5 (i3 + (1 : Int)) e5 (by omega) (by omega) (by rw [hss]; omega) ls (lv_sub hl [2, 3, 1, 0] rfl)
  refine lv_iconst (v := (0 : Int32)) hx hb dX2_seaAt_0 (by decide) ?_
  refine lv_istore_n hx hb dX2_seaAt_1 rfl hl (by decide) rfl (fun ls hl => ?_)
  have hl : lv_has ls 4 [(2, .int (0 : Int32)), (0, .ref t), (1, .int x)] := hl
  refine lv_iconst (v := (0 : Int32)) hx hb dX2_seaAt_2 (by decide) ?_
  refine lv_istore_n hx hb dX2_seaAt_3 rfl hl (by decide) rfl (fun ls hl => ?_)
  have hl : lv_has ls 4 [(3, .int (0 : Int32)), (2, .int (0 : Int32)), (0, .ref t), (1, .int x)] := hl
  exact cut4 (((3 - (0 : Int)).toNat) + 1) (0 : Int32) (0 : Int) kI_0 (0 : Int32) (0 : Int) kI_0 (Nat.lt_succ_self _) (by omega) rfl ls (lv_sub hl [2, 3, 1, 0] rfl)

abbrev rmX2_waterAt : Room := { frames := 3, cells := 0, slots := 0, locals := 68 }
theorem iwX2_waterAt_0 : ∀ w ∈ wsX00, w ∈ wsX2_waterAt := fun _ h => List.mem_cons_of_mem _ (List.mem_append_left _ (List.mem_append_left _ (List.mem_append_right _ h)))
theorem flX2_waterAt_56 : Cond.fieldLink RX2 56 "SiltedFloats$Gauge" "scale" "I" ∈ wsX2_waterAt := by decide +kernel
theorem flX2_waterAt_59 : Cond.fieldLink RX2 59 "SiltedFloats$Gauge" "delay" "I" ∈ wsX2_waterAt := by decide +kernel
theorem flX2_waterAt_71 : Cond.fieldLink RX2 71 "SiltedFloats$Gauge" "offset" "I" ∈ wsX2_waterAt := by decide +kernel
theorem hyX2_waterAt : yX2_waterAt.cls = RX2 ∧ yX2_waterAt.cls ≠ "java/lang/invoke/MethodHandle" ∧ yX2_waterAt.cls ≠ "java/lang/invoke/VarHandle" ∧ (parseMethodDescriptor yX2_waterAt.desc).map (fun d => d.parameters.length) = some 2 := by decide +kernel
set_option maxHeartbeats 4000000 in
set_option maxRecDepth 100000 in
theorem kX2_waterAt (l : Launch) (G : xG) (t : Nat) (σ : SD) (i : Nat) (h_i : i < 3) (y : Int32) (h : Int) (e_y : y.toInt = h) (hw : ∀ i, i < 3 → waveOk (σ.2.1 i)) (hg : staOk (σ.2.2 i)) (hh : -500 ≤ h ∧ h ≤ 500) : Met l yX2_waterAt wsX2_waterAt rmX2_waterAt (va_Pc [.ref t, .ref (t + 6 + 4 * i), .int y] (zPre G (fun H => ST G H t σ))) (zS (fun v => v.toInt = watZ σ.2.1 (σ.2.2 i) h)) 0 0 zno := by
  refine z_ofW (cc := cX2_waterAt) (maxL := 3) (ret := some .int) (by decide +kernel) rfl (Nat.le_of_ble_eq_true rfl) ?_
  intro p e s m below meth c hx hb hml hr hts hown hlocks hK hP ls hl
  have hT := hP
  have hown : s.vm.findClass RX2 = some m.cls := hown
  have hl : lv_has ls 3 [(0, .ref t), (1, .ref (t + 6 + 4 * i)), (2, .int y)] := hl
  have hg1 := id hg
  unfold staOk at hg1
  have hwp := watZ_p hw hg (h - ((σ.2.2 i).1 0).toInt)
  have hJ1 : GA G s.heap (t + 6 + 4 * i) (σ.2.2 i) := hT.gauge (i := i) h_i
  refine lv_aload_n hx hb dX2_waterAt_0 rfl (lv_at hl 1 rfl) ?_
  refine z_get hx hb hts iwX2_waterAt_0 hown hK hJ1.1 rfl 1 (by decide) flX2_waterAt_56 rfl (v := .int (((σ.2.2 i).1) 1)) rfl dX2_waterAt_1 ?_
  refine lv_aload_n hx hb dX2_waterAt_4 rfl (lv_at hl 0 rfl) ?_
  refine lv_iload_n hx hb dX2_waterAt_5 rfl (lv_at hl 2 rfl) ?_
  refine lv_aload_n hx hb dX2_waterAt_6 rfl (lv_at hl 1 rfl) ?_
  refine z_get hx hb hts iwX2_waterAt_0 hown hK hJ1.1 rfl 0 (by decide) flX2_waterAt_59 rfl (v := .int (((σ.2.2 i).1) 0)) rfl dX2_waterAt_7 ?_
  refine z_isub hx hb e_y rfl dX2_waterAt_10 (by omega) (fun z2 e2 => ?_)
  refine z_cV (As := [.int z2]) (rest := [.int (((σ.2.2 i).1) 1)]) ⟨hx, hb, hml, hown, hts⟩ (kX2_seaAt l G t σ z2 (h - ((((σ.2.2 i).1) 0).toInt)) e2 hw (by first | assumption | omega)) (cwV 1 hts gX2_waterAt_X2_seaAt rfl rfl rfl hyX2_seaAt ⟨Nat.le_of_ble_eq_true rfl, Nat.le_of_ble_eq_true rfl⟩) hK hT hT.1 rfl rfl hl.1 rfl (Nat.le_of_ble_eq_true rfl) dX2_waterAt_11 ⟨Nat.zero_le _, Nat.zero_le _⟩ (fun z3 e3 => ?_)
  have e3 : z3.toInt = seaZ σ.2.1 (h - ((((σ.2.2 i).1) 0).toInt)) := e3
  refine z_imul hx hb rfl e3 dX2_waterAt_14 (by omega) (fun z4 e4 => ?_)
  refine lv_bipush (v := (100 : Int32)) hx hb dX2_waterAt_15 (by decide) ?_
  refine z_cS (As := [.int z4, .int (100 : Int32)]) (rest := []) ⟨hx, hb, hml, hown, hts⟩ (kJ9_floorDiv_7cf53 l G z4 (((((σ.2.2 i).1) 1).toInt) * (seaZ σ.2.1 (h - ((((σ.2.2 i).1) 0).toInt)))) e4 (100 : Int32) (100 : Int) kI_100 (by first | assumption | omega)) (va_cwS 2 hts gX2_waterAt_J9_floorDiv_7cf53 rfl rfl rfl hyJ9_floorDiv_7cf53 ⟨Nat.le_of_ble_eq_true rfl, Nat.le_of_ble_eq_true rfl⟩) hK trivial rfl hl.1 rfl (Nat.le_of_ble_eq_true rfl) dX2_waterAt_17 ⟨Nat.zero_le _, Nat.zero_le _⟩ (fun z5 e5 => ?_)
  have e5 : z5.toInt = (((((σ.2.2 i).1) 1).toInt) * (seaZ σ.2.1 (h - ((((σ.2.2 i).1) 0).toInt)))) / (100 : Int) := e5
  refine lv_aload_n hx hb dX2_waterAt_20 rfl (lv_at hl 1 rfl) ?_
  refine z_get hx hb hts iwX2_waterAt_0 hown hK hJ1.1 rfl 2 (by decide) flX2_waterAt_71 rfl (v := .int (((σ.2.2 i).1) 2)) rfl dX2_waterAt_21 ?_
  refine z_iadd hx hb e5 rfl dX2_waterAt_24 (by omega) (fun z6 e6 => ?_)
  exact z_ri (v := z6) hx hb hr hlocks (show z6.toInt = watZ σ.2.1 (σ.2.2 i) h from (by rw [e6]; rfl)) dX2_waterAt_25

abbrev rmX2_settleFloat : Room := { frames := 4, cells := 0, slots := 0, locals := 90 }
theorem iwX2_settleFloat_0 : ∀ w ∈ wsX00, w ∈ wsX2_settleFloat := fun _ h => List.mem_cons_of_mem _ (List.mem_append_left _ (List.mem_append_left _ (List.mem_append_right _ h)))
theorem flX2_settleFloat_78 : Cond.fieldLink RX2 78 "SiltedFloats$Gauge" "floatLevel" "I" ∈ wsX2_settleFloat := by decide +kernel
theorem hyX2_settleFloat : yX2_settleFloat.cls = RX2 ∧ yX2_settleFloat.cls ≠ "java/lang/invoke/MethodHandle" ∧ yX2_settleFloat.cls ≠ "java/lang/invoke/VarHandle" ∧ (parseMethodDescriptor yX2_settleFloat.desc).map (fun d => d.parameters.length) = some 1 := by decide +kernel
set_option maxHeartbeats 4000000 in
set_option maxRecDepth 100000 in
theorem kX2_settleFloat (l : Launch) (G : xG) (t : Nat) (σ : SD) (i : Nat) (h_i : i < 3) (hw : ∀ i, i < 3 → waveOk (σ.2.1 i)) (hg : staOk (σ.2.2 i)) : Met l yX2_settleFloat wsX2_settleFloat rmX2_settleFloat (va_Pc [.ref t, .ref (t + 6 + 4 * i)] (zPre G (fun H => ST G H t σ))) (zV (fun H => ST G H t (σ.1, σ.2.1, va_up σ.2.2 i (sfG σ.2.1 (σ.2.2 i)))) (iv t 18)) 0 0 (iv t 18) := by
  refine z_ofW (cc := cX2_settleFloat) (maxL := 2) (ret := none) (by decide +kernel) rfl (Nat.le_of_ble_eq_true rfl) ?_
  intro p e s m below meth c hx hb hml hr hts hown hlocks hK hP ls hl
  have hT := hP
  have hown : s.vm.findClass RX2 = some m.cls := hown
  have hl : lv_has ls 2 [(0, .ref t), (1, .ref (t + 6 + 4 * i))] := hl
  have hS : va_S (iv t 18) s.heap s.heap [] := va_S.rf
  have hJ1 : GA G s.heap (t + 6 + 4 * i) (σ.2.2 i) := hT.gauge (i := i) h_i
  refine lv_aload_n hx hb dX2_settleFloat_0 rfl (lv_at hl 1 rfl) ?_
  refine lv_aload_n hx hb dX2_settleFloat_1 rfl (lv_at hl 0 rfl) ?_
  refine lv_aload_n hx hb dX2_settleFloat_2 rfl (lv_at hl 1 rfl) ?_
  refine lv_iconst (v := (0 : Int32)) hx hb dX2_settleFloat_3 (by decide) ?_
  refine z_cV (As := [.ref (t + 6 + 4 * i), .int (0 : Int32)]) (rest := [.ref (t + 6 + 4 * i)]) ⟨hx, hb, hml, hown, hts⟩ (kX2_waterAt l G t σ i (by omega) (0 : Int32) (0 : Int) kI_0 (by first | assumption | omega) (by first | assumption | omega) (by first | assumption | omega)) (cwV 2 hts gX2_settleFloat_X2_waterAt rfl rfl rfl hyX2_waterAt ⟨Nat.le_of_ble_eq_true rfl, Nat.le_of_ble_eq_true rfl⟩) hK hT hT.1 rfl rfl hl.1 rfl (Nat.le_of_ble_eq_true rfl) dX2_settleFloat_4 ⟨Nat.zero_le _, Nat.zero_le _⟩ (fun z2 e2 => ?_)
  have e2 : z2.toInt = watZ σ.2.1 (σ.2.2 i) (0 : Int) := e2
  refine z_putG hx hb hts iwX2_settleFloat_0 hown hK hJ1 hS (by simp only [iv]; omega) 3 (by decide) flX2_settleFloat_78 rfl rfl (ty := .int) rfl rfl rfl dX2_settleFloat_7 (fun H locs hJ1 hsz hq hS => ?_)
  have hJ1 : GA G H (t + 6 + 4 * i) (upd ((σ.2.2 i).1) 3 z2, (σ.2.2 i).2.1, (σ.2.2 i).2.2.1, (σ.2.2 i).2.2.2) := hJ1
  have hT : ST G H t (σ.1, σ.2.1, va_up σ.2.2 i (upd ((σ.2.2 i).1) 3 z2, (σ.2.2 i).2.1, (σ.2.2 i).2.2.1, (σ.2.2 i).2.2.2)) := hT.setG (i := i) h_i hJ1 (fun q h1 h => hq q (by omega))
  exact z_rv hx hb hr hlocks (hT.to (by unfold sfG; rw [← zi_eqOf e2])) hS dX2_settleFloat_10

abbrev rmX2_settleFloats : Room := { frames := 5, cells := 0, slots := 0, locals := 111 }
theorem iwX2_settleFloats_2 : ∀ w ∈ wsX20, w ∈ wsX2_settleFloats := fun _ h => List.mem_cons_of_mem _ (List.mem_append_left _ (List.mem_append_left _ (List.mem_append_right _ h)))
theorem flX2_settleFloats_22 : Cond.fieldLink RX2 22 "SiltedFloats$State" "gauges" "[LSiltedFloats$Gauge;" ∈ wsX2_settleFloats := by decide +kernel
theorem hyX2_settleFloats : yX2_settleFloats.cls = RX2 ∧ yX2_settleFloats.cls ≠ "java/lang/invoke/MethodHandle" ∧ yX2_settleFloats.cls ≠ "java/lang/invoke/VarHandle" ∧ (parseMethodDescriptor yX2_settleFloats.desc).map (fun d => d.parameters.length) = some 0 := by decide +kernel
set_option maxHeartbeats 4000000 in
set_option maxRecDepth 100000 in
theorem kX2_settleFloats (l : Launch) (G : xG) (t : Nat) (σ : SD) (hw : ∀ i, i < 3 → waveOk (σ.2.1 i)) (hg : ∀ i, i < 3 → staOk (σ.2.2 i)) : Met l yX2_settleFloats wsX2_settleFloats rmX2_settleFloats (va_Pc [.ref t] (zPre G (fun H => ST G H t σ))) (zV (fun H => ST G H t (settle σ)) (iv t 18)) 0 0 (iv t 18) := by
  refine z_ofW (cc := cX2_settleFloats) (maxL := 2) (ret := none) (by decide +kernel) rfl (Nat.le_of_ble_eq_true rfl) ?_
  intro p e s m below meth c hx hb hml hr hts hown hlocks hK hP ls hl
  have hT := hP
  have hown : s.vm.findClass RX2 = some m.cls := hown
  have hl : lv_has ls 2 [(0, .ref t)] := hl
  have hS : va_S (iv t 18) s.heap s.heap [] := va_S.rf
  have cut2 : ∀ (n2 : Nat), ∀ (x1 : Int32) (i1 : Int) (_ : x1.toInt = i1), (3 - i1).toNat < n2 → (0 ≤ i1 ∧ i1 ≤ 3) → ∀ (H : Heap) (locs : List Loc), ST G H t (σ.1, σ.2.1, sfN σ i1) → va_S (iv t 18) s.heap H locs → ∀ ls : Array Slot, lv_has ls 2 [(0, .ref t), (1, .int x1)] → W p l e rmX2_settleFloats s m ([.ref t] : List Value).toArray below meth c H locs 0 0 (MQ below (zV (fun H => ST G H t (settle σ)) (iv t 18)) ([.ref t] : List Value).toArray s 0 0 (iv t 18)) (F0 m 2 ls []) := by
    intro n2
    induction n2 with
    | zero =>
      intro x1 i1 hx1 hmu2 hi2_0 H locs hT hS ls hl
      exact absurd hmu2 (Nat.not_lt_zero _)
    | succ n2 ih2 =>
      intro x1 i1 hx1 hmu2 hi2_0 H locs hT hS ls hl
      refine lv_iload_n hx hb dX2_settleFloats_2 rfl (lv_at hl 1 rfl) ?_
      refine lv_iconst (v := (3 : Int32)) hx hb dX2_settleFloats_3 (by decide) ?_
      refine z_icmp_ge (tgt := 23) hx hb hx1 kI_3 dX2_settleFloats_4 (by decide) (fun c_1 => ?_) (fun c_1 => ?_)
      · exact z_rv hx hb hr hlocks (hT.to (by rw [show i1 = 3 by omega]; rfl)) hS dX2_settleFloats_23
      · refine lv_aload_n hx hb dX2_settleFloats_7 rfl (lv_at hl 0 rfl) ?_
        refine lv_aload_n hx hb dX2_settleFloats_8 rfl (lv_at hl 0 rfl) ?_
        refine z_get hx hb hts iwX2_settleFloats_2 hown hK hT.1 rfl 2 (by decide) flX2_settleFloats_22 rfl (v := .ref (t + 5)) rfl dX2_settleFloats_9 ?_
        refine lv_iload_n hx hb dX2_settleFloats_12 rfl (lv_at hl 1 rfl) ?_
        have hJ2 : GA G H (t + 6 + 4 * i1.toNat) ((sfN σ i1) i1.toNat) := hT.gauge (i := i1.toNat) (by omega)
        refine z_aald (b := t + 6 + 4 * i1.toNat) hx hb hK 3 hT.2.2.1 rfl hx1 (by omega) rfl dX2_settleFloats_13 ?_
        refine z_cVv (As := [.ref (t + 6 + 4 * i1.toNat)]) (rest := []) ⟨hx, hb, hml, hown, hts⟩ (kX2_settleFloat l G t (σ.1, σ.2.1, sfN σ i1) i1.toNat (by omega) hw (sfN_sta (hg _ (by omega)))) (cwV 1 hts gX2_settleFloats_X2_settleFloat rfl rfl rfl hyX2_settleFloat ⟨Nat.le_of_ble_eq_true rfl, Nat.le_of_ble_eq_true rfl⟩) hK hT hT.1 rfl rfl hl.1 rfl (Nat.le_of_ble_eq_true rfl) dX2_settleFloats_14 ⟨Nat.zero_le _, Nat.zero_le _⟩ hS (fun q h => by simp only [iv] at h ⊢; omega) (fun H locs hB hsz hq hS => ?_)
        have hT := hB
        have hT : ST G H t (σ.1, σ.2.1, va_up (sfN σ i1) i1.toNat (sfG σ.2.1 ((sfN σ i1) i1.toNat))) := hT
        have hJ2 : GA G H (t + 6 + 4 * i1.toNat) (sfG σ.2.1 ((sfN σ i1) i1.toNat)) := (hT.gauge (i := i1.toNat) (by omega)).to (by simp only [va_up_self, bx_uu])
        refine z_iinc (k := 1) hx hb dX2_settleFloats_17 hl rfl hx1 (show (Int32.ofInt 1).toInt = (1 : Int) from rfl) (by omega) (by decide) (fun z4 e4 ls hl => ?_)
        have hl : lv_has ls 2 [(1, .int z4), (0, .ref t)] := hl
        refine lv_goto (tgt := 2) hx hb dX2_settleFloats_20 (by decide) ?_
        exact ih2 z4 (i1 + (1 : Int)) e4 (by omega) (by omega) _ _ (hT.to (by rw [sfN_s (by omega)])) hS ls (lv_sub hl [1, 0] rfl)
  refine lv_iconst (v := (0 : Int32)) hx hb dX2_settleFloats_0 (by decide) ?_
  refine lv_istore_n hx hb dX2_settleFloats_1 rfl hl (by decide) rfl (fun ls hl => ?_)
  have hl : lv_has ls 2 [(1, .int (0 : Int32)), (0, .ref t)] := hl
  exact cut2 (((3 - (0 : Int)).toNat) + 1) (0 : Int32) (0 : Int) kI_0 (Nat.lt_succ_self _) (by omega) _ _ (hT.to (by rw [sfN_0 (by omega)])) hS ls (lv_sub hl [1, 0] rfl)

abbrev rmX2_stationsOn : Room := { frames := 0, cells := 0, slots := 0, locals := 0 }
theorem iwX2_stationsOn_0 : ∀ w ∈ wsX00, w ∈ wsX2_stationsOn := fun _ h => List.mem_cons_of_mem _ (List.mem_append_right _ h)
theorem iwX2_stationsOn_2 : ∀ w ∈ wsX20, w ∈ wsX2_stationsOn := fun _ h => List.mem_cons_of_mem _ (List.mem_append_left _ (List.mem_append_right _ h))
theorem flX2_stationsOn_22 : Cond.fieldLink RX2 22 "SiltedFloats$State" "gauges" "[LSiltedFloats$Gauge;" ∈ wsX2_stationsOn := by decide +kernel
theorem flX2_stationsOn_96 : Cond.fieldLink RX2 96 "SiltedFloats$Gauge" "on" "Z" ∈ wsX2_stationsOn := by decide +kernel
theorem hyX2_stationsOn : yX2_stationsOn.cls = RX2 ∧ yX2_stationsOn.cls ≠ "java/lang/invoke/MethodHandle" ∧ yX2_stationsOn.cls ≠ "java/lang/invoke/VarHandle" ∧ (parseMethodDescriptor yX2_stationsOn.desc).map (fun d => d.parameters.length) = some 0 := by decide +kernel
set_option maxHeartbeats 4000000 in
set_option maxRecDepth 100000 in
theorem kX2_stationsOn (l : Launch) (G : xG) (t : Nat) (σ : SD) : Met l yX2_stationsOn wsX2_stationsOn rmX2_stationsOn (va_Pc [.ref t] (zPre G (fun H => ST G H t σ))) (zS (fun v => v.toInt = onN σ.2.2 3)) 0 0 zno := by
  refine z_ofW (cc := cX2_stationsOn) (maxL := 3) (ret := some .int) (by decide +kernel) rfl (Nat.le_of_ble_eq_true rfl) ?_
  intro p e s m below meth c hx hb hml hr hts hown hlocks hK hP ls hl
  have hT := hP
  have hown : s.vm.findClass RX2 = some m.cls := hown
  have hl : lv_has ls 3 [(0, .ref t)] := hl
  have cut4 : ∀ (n4 : Nat), ∀ (x1 : Int32) (i1 : Int) (_ : x1.toInt = i1) (x2 : Int32) (i2 : Int) (_ : x2.toInt = i2), (3 - i2).toNat < n4 → (0 ≤ i2 ∧ i2 ≤ 3) → (i1 = onN σ.2.2 i2.toNat) → (0 ≤ i1 ∧ i1 ≤ i2) → ∀ ls : Array Slot, lv_has ls 3 [(0, .ref t), (1, .int x1), (2, .int x2)] → W p l e rmX2_stationsOn s m ([.ref t] : List Value).toArray below meth c s.heap [] 0 0 (MQ below (zS (fun v => v.toInt = onN σ.2.2 3)) ([.ref t] : List Value).toArray s 0 0 zno) (F0 m 4 ls []) := by
    intro n4
    induction n4 with
    | zero =>
      intro x1 i1 hx1 x2 i2 hx2 hmu4 hi4_0 hi4_1 hi4_2 ls hl
      exact absurd hmu4 (Nat.not_lt_zero _)
    | succ n4 ih4 =>
      intro x1 i1 hx1 x2 i2 hx2 hmu4 hi4_0 hi4_1 hi4_2 ls hl
      have hos := onN_s (g := σ.2.2) (i := i2) (by omega)
      refine lv_iload_n hx hb dX2_stationsOn_4 rfl (lv_at hl 2 rfl) ?_
      refine lv_iconst (v := (3 : Int32)) hx hb dX2_stationsOn_5 (by decide) ?_
      refine z_icmp_ge (tgt := 30) hx hb hx2 kI_3 dX2_stationsOn_6 (by decide) (fun c_1 => ?_) (fun c_1 => ?_)
      · refine lv_iload_n hx hb dX2_stationsOn_30 rfl (lv_at hl 1 rfl) ?_
        exact z_ri (v := x1) hx hb hr hlocks (show x1.toInt = onN σ.2.2 3 from (by rw [hx1, hi4_1, show i2 = 3 by omega]; rfl)) dX2_stationsOn_31
      · refine lv_aload_n hx hb dX2_stationsOn_9 rfl (lv_at hl 0 rfl) ?_
        refine z_get hx hb hts iwX2_stationsOn_2 hown hK hT.1 rfl 2 (by decide) flX2_stationsOn_22 rfl (v := .ref (t + 5)) rfl dX2_stationsOn_10 ?_
        refine lv_iload_n hx hb dX2_stationsOn_13 rfl (lv_at hl 2 rfl) ?_
        have hJ2 : GA G s.heap (t + 6 + 4 * i2.toNat) (σ.2.2 i2.toNat) := hT.gauge (i := i2.toNat) (by omega)
        refine z_aald (b := t + 6 + 4 * i2.toNat) hx hb hK 3 hT.2.2.1 rfl hx2 (by omega) rfl dX2_stationsOn_14 ?_
        refine z_get hx hb hts iwX2_stationsOn_0 hown hK hJ2.1 rfl 8 (by decide) flX2_stationsOn_96 rfl (v := .int (((σ.2.2 i2.toNat).1) 8)) rfl dX2_stationsOn_15 ?_
        refine z_if_eq (tgt := 24) hx hb rfl dX2_stationsOn_18 (by decide) (fun c_3 => ?_) (fun c_3 => ?_)
        · refine z_iinc (k := 2) hx hb dX2_stationsOn_24 hl rfl hx2 (show (Int32.ofInt 1).toInt = (1 : Int) from rfl) (by omega) (by decide) (fun z4 e4 ls hl => ?_)
          have hl : lv_has ls 3 [(2, .int z4), (0, .ref t), (1, .int x1)] := hl
          refine lv_goto (tgt := 4) hx hb dX2_stationsOn_27 (by decide) ?_
          exact ih4 x1 i1 hx1 z4 (i2 + (1 : Int)) e4 (by omega) (by omega) (by rw [hos, if_pos (by assumption)]; omega) (by omega) ls (lv_sub hl [1, 2, 0] rfl)
        · refine z_iinc (k := 1) hx hb dX2_stationsOn_21 hl rfl hx1 (show (Int32.ofInt 1).toInt = (1 : Int) from rfl) (by omega) (by decide) (fun z5 e5 ls hl => ?_)
          have hl : lv_has ls 3 [(1, .int z5), (0, .ref t), (2, .int x2)] := hl
          refine z_iinc (k := 2) hx hb dX2_stationsOn_24 hl rfl hx2 (show (Int32.ofInt 1).toInt = (1 : Int) from rfl) (by omega) (by decide) (fun z6 e6 ls hl => ?_)
          have hl : lv_has ls 3 [(2, .int z6), (1, .int z5), (0, .ref t)] := hl
          refine lv_goto (tgt := 4) hx hb dX2_stationsOn_27 (by decide) ?_
          exact ih4 z5 (i1 + (1 : Int)) e5 z6 (i2 + (1 : Int)) e6 (by omega) (by omega) (by rw [hos, if_neg (by assumption)]; omega) (by omega) ls (lv_sub hl [2, 1, 0] rfl)
  refine lv_iconst (v := (0 : Int32)) hx hb dX2_stationsOn_0 (by decide) ?_
  refine lv_istore_n hx hb dX2_stationsOn_1 rfl hl (by decide) rfl (fun ls hl => ?_)
  have hl : lv_has ls 3 [(1, .int (0 : Int32)), (0, .ref t)] := hl
  refine lv_iconst (v := (0 : Int32)) hx hb dX2_stationsOn_2 (by decide) ?_
  refine lv_istore_n hx hb dX2_stationsOn_3 rfl hl (by decide) rfl (fun ls hl => ?_)
  have hl : lv_has ls 3 [(2, .int (0 : Int32)), (1, .int (0 : Int32)), (0, .ref t)] := hl
  exact cut4 (((3 - (0 : Int)).toNat) + 1) (0 : Int32) (0 : Int) kI_0 (0 : Int32) (0 : Int) kI_0 (Nat.lt_succ_self _) (by omega) rfl (by omega) ls (lv_sub hl [2, 1, 0] rfl)

abbrev rmX2_hoursOfKind : Room := { frames := 1, cells := 0, slots := 0, locals := 23 }
theorem iwX2_hoursOfKind_2 : ∀ w ∈ wsX20, w ∈ wsX2_hoursOfKind := fun _ h => List.mem_cons_of_mem _ (List.mem_append_left _ (List.mem_append_right _ h))
theorem flX2_hoursOfKind_22 : Cond.fieldLink RX2 22 "SiltedFloats$State" "gauges" "[LSiltedFloats$Gauge;" ∈ wsX2_hoursOfKind := by decide +kernel
theorem hyX2_hoursOfKind : yX2_hoursOfKind.cls = RX2 ∧ yX2_hoursOfKind.cls ≠ "java/lang/invoke/MethodHandle" ∧ yX2_hoursOfKind.cls ≠ "java/lang/invoke/VarHandle" ∧ (parseMethodDescriptor yX2_hoursOfKind.desc).map (fun d => d.parameters.length) = some 1 := by decide +kernel
set_option maxHeartbeats 4000000 in
set_option maxRecDepth 100000 in
theorem kX2_hoursOfKind (l : Launch) (G : xG) (t : Nat) (σ : SD) (x : Int32) (k : Int) (e_x : x.toInt = k) : Met l yX2_hoursOfKind wsX2_hoursOfKind rmX2_hoursOfKind (va_Pc [.ref t, .int x] (zPre G (fun H => ST G H t σ))) (zS (fun v => v.toInt = hkN σ.2.2 k 3)) 0 0 zno := by
  refine z_ofW (cc := cX2_hoursOfKind) (maxL := 4) (ret := some .int) (by decide +kernel) rfl (Nat.le_of_ble_eq_true rfl) ?_
  intro p e s m below meth c hx hb hml hr hts hown hlocks hK hP ls hl
  have hT := hP
  have hown : s.vm.findClass RX2 = some m.cls := hown
  have hl : lv_has ls 4 [(0, .ref t), (1, .int x)] := hl
  have cut4 : ∀ (n4 : Nat), ∀ (x2 : Int32) (i2 : Int) (_ : x2.toInt = i2) (x3 : Int32) (i3 : Int) (_ : x3.toInt = i3), (3 - i3).toNat < n4 → (0 ≤ i3 ∧ i3 ≤ 3) → (i2 = hkN σ.2.2 k i3.toNat) → (0 ≤ i2 ∧ i2 ≤ 120 * i3) → ∀ ls : Array Slot, lv_has ls 4 [(0, .ref t), (1, .int x), (2, .int x2), (3, .int x3)] → W p l e rmX2_hoursOfKind s m ([.ref t, .int x] : List Value).toArray below meth c s.heap [] 0 0 (MQ below (zS (fun v => v.toInt = hkN σ.2.2 k 3)) ([.ref t, .int x] : List Value).toArray s 0 0 zno) (F0 m 4 ls []) := by
    intro n4
    induction n4 with
    | zero =>
      intro x2 i2 hx2 x3 i3 hx3 hmu4 hi4_0 hi4_1 hi4_2 ls hl
      exact absurd hmu4 (Nat.not_lt_zero _)
    | succ n4 ih4 =>
      intro x2 i2 hx2 x3 i3 hx3 hmu4 hi4_0 hi4_1 hi4_2 ls hl
      have hos := hkN_s (g := σ.2.2) (k := k) (i := i3) (by omega)
      have hcb := cntZ_b (fun j => ((σ.2.2 i3.toNat).2.1 j).toInt = k) 120
      refine lv_iload_n hx hb dX2_hoursOfKind_4 rfl (lv_at hl 3 rfl) ?_
      refine lv_iconst (v := (3 : Int32)) hx hb dX2_hoursOfKind_5 (by decide) ?_
      refine z_icmp_ge (tgt := 28) hx hb hx3 kI_3 dX2_hoursOfKind_6 (by decide) (fun c_1 => ?_) (fun c_1 => ?_)
      · refine lv_iload_n hx hb dX2_hoursOfKind_28 rfl (lv_at hl 2 rfl) ?_
        exact z_ri (v := x2) hx hb hr hlocks (show x2.toInt = hkN σ.2.2 k 3 from (by rw [hx2, hi4_1, show i3 = 3 by omega]; rfl)) dX2_hoursOfKind_29
      · refine lv_iload_n hx hb dX2_hoursOfKind_9 rfl (lv_at hl 2 rfl) ?_
        refine lv_aload_n hx hb dX2_hoursOfKind_10 rfl (lv_at hl 0 rfl) ?_
        refine z_get hx hb hts iwX2_hoursOfKind_2 hown hK hT.1 rfl 2 (by decide) flX2_hoursOfKind_22 rfl (v := .ref (t + 5)) rfl dX2_hoursOfKind_11 ?_
        refine lv_iload_n hx hb dX2_hoursOfKind_14 rfl (lv_at hl 3 rfl) ?_
        have hJ2 : GA G s.heap (t + 6 + 4 * i3.toNat) (σ.2.2 i3.toNat) := hT.gauge (i := i3.toNat) (by omega)
        refine z_aald (b := t + 6 + 4 * i3.toNat) hx hb hK 3 hT.2.2.1 rfl hx3 (by omega) rfl dX2_hoursOfKind_15 ?_
        refine lv_iload_n hx hb dX2_hoursOfKind_16 rfl (lv_at hl 1 rfl) ?_
        refine z_cV (As := [.int x]) (rest := [.int x2]) ⟨hx, hb, hml, hown, hts⟩ (kX0_hoursOfKind l G (t + 6 + 4 * i3.toNat) (σ.2.2 i3.toNat) x k e_x) (cwV 1 hts gX2_hoursOfKind_X0_hoursOfKind rfl rfl rfl hyX0_hoursOfKind ⟨Nat.le_of_ble_eq_true rfl, Nat.le_of_ble_eq_true rfl⟩) hK hJ2 hJ2.1 rfl rfl hl.1 rfl (Nat.le_of_ble_eq_true rfl) dX2_hoursOfKind_17 ⟨Nat.zero_le _, Nat.zero_le _⟩ (fun z3 e3 => ?_)
        have e3 : z3.toInt = cntZ (fun j => ((σ.2.2 i3.toNat).2.1 j).toInt = k) 120 := e3
        refine z_iadd hx hb hx2 e3 dX2_hoursOfKind_20 (by omega) (fun z4 e4 => ?_)
        refine lv_istore_n hx hb dX2_hoursOfKind_21 rfl hl (by decide) rfl (fun ls hl => ?_)
        have hl : lv_has ls 4 [(2, .int z4), (0, .ref t), (1, .int x), (3, .int x3)] := hl
        refine z_iinc (k := 3) hx hb dX2_hoursOfKind_22 hl rfl hx3 (show (Int32.ofInt 1).toInt = (1 : Int) from rfl) (by omega) (by decide) (fun z5 e5 ls hl => ?_)
        have hl : lv_has ls 4 [(3, .int z5), (2, .int z4), (0, .ref t), (1, .int x)] := hl
        refine lv_goto (tgt := 4) hx hb dX2_hoursOfKind_25 (by decide) ?_
        exact ih4 z4 (i2 + (cntZ (fun j => ((σ.2.2 i3.toNat).2.1 j).toInt = k) 120)) e4 z5 (i3 + (1 : Int)) e5 (by omega) (by omega) (by rw [hos]; omega) (by omega) ls (lv_sub hl [2, 3, 1, 0] rfl)
  refine lv_iconst (v := (0 : Int32)) hx hb dX2_hoursOfKind_0 (by decide) ?_
  refine lv_istore_n hx hb dX2_hoursOfKind_1 rfl hl (by decide) rfl (fun ls hl => ?_)
  have hl : lv_has ls 4 [(2, .int (0 : Int32)), (0, .ref t), (1, .int x)] := hl
  refine lv_iconst (v := (0 : Int32)) hx hb dX2_hoursOfKind_2 (by decide) ?_
  refine lv_istore_n hx hb dX2_hoursOfKind_3 rfl hl (by decide) rfl (fun ls hl => ?_)
  have hl : lv_has ls 4 [(3, .int (0 : Int32)), (2, .int (0 : Int32)), (0, .ref t), (1, .int x)] := hl
  exact cut4 (((3 - (0 : Int)).toNat) + 1) (0 : Int32) (0 : Int) kI_0 (0 : Int32) (0 : Int) kI_0 (Nat.lt_succ_self _) (by omega) rfl (by omega) ls (lv_sub hl [2, 3, 1, 0] rfl)

abbrev rmX2_passHours : Room := { frames := 4, cells := 0, slots := 0, locals := 90 }
theorem iwX2_passHours_2 : ∀ w ∈ wsX20, w ∈ wsX2_passHours := fun _ h => List.mem_cons_of_mem _ (List.mem_append_left _ (List.mem_append_left _ (List.mem_append_right _ h)))
theorem flX2_passHours_22 : Cond.fieldLink RX2 22 "SiltedFloats$State" "gauges" "[LSiltedFloats$Gauge;" ∈ wsX2_passHours := by decide +kernel
theorem flX2_passHours_33 : Cond.fieldLink RX2 33 "SiltedFloats$State" "hour" "I" ∈ wsX2_passHours := by decide +kernel
theorem hyX2_passHours : yX2_passHours.cls = RX2 ∧ yX2_passHours.cls ≠ "java/lang/invoke/MethodHandle" ∧ yX2_passHours.cls ≠ "java/lang/invoke/VarHandle" ∧ (parseMethodDescriptor yX2_passHours.desc).map (fun d => d.parameters.length) = some 1 := by decide +kernel
set_option maxHeartbeats 4000000 in
set_option maxRecDepth 100000 in
theorem kX2_passHours (l : Launch) (G : xG) (t : Nat) (σ : SD) (x : Int32) (h : Int) (e_x : x.toInt = h) (hok : stOk σ) (hh : 0 ≤ h ∧ σ.1.toInt + h ≤ 120) : Met l yX2_passHours wsX2_passHours rmX2_passHours (va_Pc [.ref t, .int x] (zPre G (fun H => ST G H t σ))) (zV (fun H => ST G H t (passN σ h.toNat)) (iv t 18)) 0 0 (iv t 18) := by
  refine z_ofW (cc := cX2_passHours) (maxL := 4) (ret := none) (by decide +kernel) rfl (Nat.le_of_ble_eq_true rfl) ?_
  intro p e s m below meth c hx hb hml hr hts hown hlocks hK hP ls hl
  have hT := hP
  have hown : s.vm.findClass RX2 = some m.cls := hown
  have hl : lv_has ls 4 [(0, .ref t), (1, .int x)] := hl
  have hS : va_S (iv t 18) s.heap s.heap [] := va_S.rf
  have hok1 := hok.1
  have cut2 : ∀ (n2 : Nat), ∀ (x2 : Int32) (i2 : Int) (_ : x2.toInt = i2), (h - i2).toNat < n2 → (0 ≤ i2 ∧ i2 ≤ h) → ∀ (H : Heap) (locs : List Loc), ST G H t (passN σ i2.toNat) → va_S (iv t 18) s.heap H locs → ∀ ls : Array Slot, lv_has ls 4 [(0, .ref t), (1, .int x), (2, .int x2)] → W p l e rmX2_passHours s m ([.ref t, .int x] : List Value).toArray below meth c H locs 0 0 (MQ below (zV (fun H => ST G H t (passN σ h.toNat)) (iv t 18)) ([.ref t, .int x] : List Value).toArray s 0 0 (iv t 18)) (F0 m 2 ls []) := by
    intro n2
    induction n2 with
    | zero =>
      intro x2 i2 hx2 hmu2 hi2_0 H locs hT hS ls hl
      exact absurd hmu2 (Nat.not_lt_zero _)
    | succ n2 ih2 =>
      intro x2 i2 hx2 hmu2 hi2_0 H locs hT hS ls hl
      have hpo := passN_ok hok i2.toNat (by omega)
      have hp1 := hpo.1.1
      refine lv_iload_n hx hb dX2_passHours_2 rfl (lv_at hl 2 rfl) ?_
      refine lv_iload_n hx hb dX2_passHours_3 rfl (lv_at hl 1 rfl) ?_
      refine z_icmp_ge (tgt := 72) hx hb hx2 e_x dX2_passHours_4 (by decide) (fun c_1 => ?_) (fun c_1 => ?_)
      · exact z_rv hx hb hr hlocks (hT.to (by rw [show i2 = h by omega])) hS dX2_passHours_72
      · refine lv_aload_n hx hb dX2_passHours_7 rfl (lv_at hl 0 rfl) ?_
        refine z_get hx hb hts iwX2_passHours_2 hown hK hT.1 rfl 0 (by decide) flX2_passHours_33 rfl (v := .int ((passN σ i2.toNat).1)) rfl dX2_passHours_8 ?_
        refine lv_bipush (v := (120 : Int32)) hx hb dX2_passHours_11 (by decide) ?_
        refine z_icmp_ge (tgt := 72) hx hb rfl kI_120 dX2_passHours_13 (by decide) (fun c_2 => ?_) (fun c_2 => ?_)
        · omega
        · refine lv_iconst (v := (0 : Int32)) hx hb dX2_passHours_16 (by decide) ?_
          refine lv_istore_n hx hb dX2_passHours_17 rfl hl (by decide) rfl (fun ls hl => ?_)
          have hl : lv_has ls 4 [(3, .int (0 : Int32)), (0, .ref t), (1, .int x), (2, .int x2)] := hl
          have cut18 : ∀ (n18 : Nat), ∀ (x3 : Int32) (i3 : Int) (_ : x3.toInt = i3), (3 - i3).toNat < n18 → (0 ≤ i3 ∧ i3 ≤ 3) → ∀ (H : Heap) (locs : List Loc), ST G H t ((passN σ i2.toNat).1, (passN σ i2.toNat).2.1, gpN (passN σ i2.toNat) i3) → va_S (iv t 18) s.heap H locs → ∀ ls : Array Slot, lv_has ls 4 [(0, .ref t), (1, .int x), (2, .int x2), (3, .int x3)] → W p l e rmX2_passHours s m ([.ref t, .int x] : List Value).toArray below meth c H locs 0 0 (MQ below (zV (fun H => ST G H t (passN σ h.toNat)) (iv t 18)) ([.ref t, .int x] : List Value).toArray s 0 0 (iv t 18)) (F0 m 18 ls []) := by
            intro n18
            induction n18 with
            | zero =>
              intro x3 i3 hx3 hmu18 hi18_0 H locs hT hS ls hl
              exact absurd hmu18 (Nat.not_lt_zero _)
            | succ n18 ih18 =>
              intro x3 i3 hx3 hmu18 hi18_0 H locs hT hS ls hl
              have hga := gpN_at (σ := passN σ i2.toNat) (i := i3) (by omega)
              refine lv_iload_n hx hb dX2_passHours_18 rfl (lv_at hl 3 rfl) ?_
              refine lv_iconst (v := (3 : Int32)) hx hb dX2_passHours_19 (by decide) ?_
              refine z_icmp_ge (tgt := 56) hx hb hx3 kI_3 dX2_passHours_20 (by decide) (fun c_3 => ?_) (fun c_3 => ?_)
              · refine lv_aload_n hx hb dX2_passHours_56 rfl (lv_at hl 0 rfl) ?_
                refine lv_dup hx hb dX2_passHours_57 rfl ?_
                refine z_get hx hb hts iwX2_passHours_2 hown hK hT.1 rfl 0 (by decide) flX2_passHours_33 rfl (v := .int ((passN σ i2.toNat).1)) rfl dX2_passHours_58 ?_
                refine lv_iconst (v := (1 : Int32)) hx hb dX2_passHours_61 (by decide) ?_
                refine z_iadd hx hb rfl kI_1 dX2_passHours_62 (by omega) (fun z4 e4 => ?_)
                refine z_putS hx hb hts iwX2_passHours_2 hown hK hT hS (by simp only [iv]; omega) flX2_passHours_33 dX2_passHours_63 (fun H locs hT hsz hq hS => ?_)
                have hT : ST G H t (z4, (passN σ i2.toNat).2.1, gpN (passN σ i2.toNat) i3) := hT
                refine z_iinc (k := 2) hx hb dX2_passHours_66 hl rfl hx2 (show (Int32.ofInt 1).toInt = (1 : Int) from rfl) (by omega) (by decide) (fun z5 e5 ls hl => ?_)
                have hl : lv_has ls 4 [(2, .int z5), (0, .ref t), (1, .int x), (3, .int x3)] := hl
                refine lv_goto (tgt := 2) hx hb dX2_passHours_69 (by decide) ?_
                exact ih2 z5 (i2 + (1 : Int)) e5 (by omega) (by omega) _ _ (hT.to (by rw [zi_eqOf e4, passN_s (by omega), show i3 = 3 by omega]; rfl)) hS ls (lv_sub hl [1, 2, 0] rfl)
              · have hgo := hpo.1.2.2 i3.toNat (by omega)
                have hgo1 := hgo.2.1
                have hgo2 := hgo.2.2.1
                have hwt := watZ_b hpo.1.2.1 hgo.sta (passN σ i2.toNat).1.toInt
                refine lv_aload_n hx hb dX2_passHours_23 rfl (lv_at hl 0 rfl) ?_
                refine z_get hx hb hts iwX2_passHours_2 hown hK hT.1 rfl 2 (by decide) flX2_passHours_22 rfl (v := .ref (t + 5)) rfl dX2_passHours_24 ?_
                refine lv_iload_n hx hb dX2_passHours_27 rfl (lv_at hl 3 rfl) ?_
                have hJ6 : GA G H (t + 6 + 4 * i3.toNat) ((gpN (passN σ i2.toNat) i3) i3.toNat) := hT.gauge (i := i3.toNat) (by omega)
                refine z_aald (b := t + 6 + 4 * i3.toNat) hx hb hK 3 hT.2.2.1 rfl hx3 (by omega) rfl dX2_passHours_28 ?_
                refine lv_aload_n hx hb dX2_passHours_29 rfl (lv_at hl 0 rfl) ?_
                refine z_get hx hb hts iwX2_passHours_2 hown hK hT.1 rfl 0 (by decide) flX2_passHours_33 rfl (v := .int ((passN σ i2.toNat).1)) rfl dX2_passHours_30 ?_
                refine lv_aload_n hx hb dX2_passHours_33 rfl (lv_at hl 0 rfl) ?_
                refine lv_aload_n hx hb dX2_passHours_34 rfl (lv_at hl 0 rfl) ?_
                refine z_get hx hb hts iwX2_passHours_2 hown hK hT.1 rfl 2 (by decide) flX2_passHours_22 rfl (v := .ref (t + 5)) rfl dX2_passHours_35 ?_
                refine lv_iload_n hx hb dX2_passHours_38 rfl (lv_at hl 3 rfl) ?_
                refine z_aald (b := t + 6 + 4 * i3.toNat) hx hb hK 3 hT.2.2.1 rfl hx3 (by omega) rfl dX2_passHours_39 ?_
                refine lv_aload_n hx hb dX2_passHours_40 rfl (lv_at hl 0 rfl) ?_
                refine z_get hx hb hts iwX2_passHours_2 hown hK hT.1 rfl 0 (by decide) flX2_passHours_33 rfl (v := .int ((passN σ i2.toNat).1)) rfl dX2_passHours_41 ?_
                refine z_cV (As := [.ref (t + 6 + 4 * i3.toNat), .int ((passN σ i2.toNat).1)]) (rest := [.int ((passN σ i2.toNat).1), .ref (t + 6 + 4 * i3.toNat)]) ⟨hx, hb, hml, hown, hts⟩ (kX2_waterAt l G t ((passN σ i2.toNat).1, (passN σ i2.toNat).2.1, gpN (passN σ i2.toNat) i3) i3.toNat (by omega) ((passN σ i2.toNat).1) (((passN σ i2.toNat).1).toInt) rfl hpo.1.2.1 (gpN_sta (hgo.sta)) (by first | assumption | omega)) (cwV 2 hts gX2_passHours_X2_waterAt rfl rfl rfl hyX2_waterAt ⟨Nat.le_of_ble_eq_true rfl, Nat.le_of_ble_eq_true rfl⟩) hK hT hT.1 rfl rfl hl.1 rfl (Nat.le_of_ble_eq_true rfl) dX2_passHours_44 ⟨Nat.zero_le _, Nat.zero_le _⟩ (fun z7 e7 => ?_)
                have e7 : z7.toInt = watZ ((passN σ i2.toNat).2.1) ((gpN (passN σ i2.toNat) i3) i3.toNat) (((passN σ i2.toNat).1).toInt) := e7
                have e7 : z7.toInt = watZ (passN σ i2.toNat).2.1 ((passN σ i2.toNat).2.2 i3.toNat) (passN σ i2.toNat).1.toInt := by rw [e7]; rw [hga]
                refine z_cVv (As := [.int ((passN σ i2.toNat).1), .int z7]) (rest := []) ⟨hx, hb, hml, hown, hts⟩ (kX0_passHour l G (t + 6 + 4 * i3.toNat) ((gpN (passN σ i2.toNat) i3) i3.toNat) ((passN σ i2.toNat).1) (((passN σ i2.toNat).1).toInt) rfl z7 (watZ (passN σ i2.toNat).2.1 ((passN σ i2.toNat).2.2 i3.toNat) (passN σ i2.toNat).1.toInt) e7 (by first | assumption | omega) (by omega) (by rw [hga]; omega) (by rw [hga]; omega) (by rw [hga]; omega)) (cwV 2 hts gX2_passHours_X0_passHour rfl rfl rfl hyX0_passHour ⟨Nat.le_of_ble_eq_true rfl, Nat.le_of_ble_eq_true rfl⟩) hK hJ6 hJ6.1 rfl rfl hl.1 rfl (Nat.le_of_ble_eq_true rfl) dX2_passHours_47 ⟨Nat.zero_le _, Nat.zero_le _⟩ hS (fun q h => by simp only [iv] at h ⊢; omega) (fun H locs hB hsz hq hS => ?_)
                have hJ6 := hB
                have hJ6 : GA G H (t + 6 + 4 * i3.toNat) (phG ((gpN (passN σ i2.toNat) i3) i3.toNat) (((passN σ i2.toNat).1).toInt) (watZ (passN σ i2.toNat).2.1 ((passN σ i2.toNat).2.2 i3.toNat) (passN σ i2.toNat).1.toInt)) := hJ6
                have hT : ST G H t ((passN σ i2.toNat).1, (passN σ i2.toNat).2.1, va_up (gpN (passN σ i2.toNat) i3) i3.toNat (phG ((gpN (passN σ i2.toNat) i3) i3.toNat) (((passN σ i2.toNat).1).toInt) (watZ (passN σ i2.toNat).2.1 ((passN σ i2.toNat).2.2 i3.toNat) (passN σ i2.toNat).1.toInt))) := hT.setG (i := i3.toNat) (by omega) hJ6 (fun q h1 h => hq q h1 (by simp only [iv]; omega))
                refine z_iinc (k := 3) hx hb dX2_passHours_50 hl rfl hx3 (show (Int32.ofInt 1).toInt = (1 : Int) from rfl) (by omega) (by decide) (fun z9 e9 ls hl => ?_)
                have hl : lv_has ls 4 [(3, .int z9), (0, .ref t), (1, .int x), (2, .int x2)] := hl
                refine lv_goto (tgt := 18) hx hb dX2_passHours_53 (by decide) ?_
                exact ih18 z9 (i3 + (1 : Int)) e9 (by omega) (by omega) _ _ (hT.to (by rw [hga, gpN_s (by omega)])) hS ls (lv_sub hl [1, 2, 3, 0] rfl)
          exact cut18 (((3 - (0 : Int)).toNat) + 1) (0 : Int32) (0 : Int) kI_0 (Nat.lt_succ_self _) (by omega) _ _ (hT.to (by rw [gpN_0 (by omega)])) hS ls (lv_sub hl [1, 2, 3, 0] rfl)
  refine lv_iconst (v := (0 : Int32)) hx hb dX2_passHours_0 (by decide) ?_
  refine lv_istore_n hx hb dX2_passHours_1 rfl hl (by decide) rfl (fun ls hl => ?_)
  have hl : lv_has ls 4 [(2, .int (0 : Int32)), (0, .ref t), (1, .int x)] := hl
  exact cut2 (((h - (0 : Int)).toNat) + 1) (0 : Int32) (0 : Int) kI_0 (Nat.lt_succ_self _) (by omega) _ _ hT hS ls (lv_sub hl [1, 2, 0] rfl)

abbrev rmX2_copyFrom : Room := { frames := 2, cells := 0, slots := 0, locals := 69 }
theorem iwX2_copyFrom_2 : ∀ w ∈ wsX20, w ∈ wsX2_copyFrom := fun _ h => List.mem_cons_of_mem _ (List.mem_append_left _ (List.mem_append_left _ (List.mem_append_right _ h)))
theorem iwX2_copyFrom_3 : ∀ w ∈ wsX30, w ∈ wsX2_copyFrom := fun _ h => List.mem_cons_of_mem _ (List.mem_append_left _ (List.mem_append_right _ h))
theorem flX2_copyFrom_11 : Cond.fieldLink RX2 11 "SiltedFloats$State" "waves" "[LSiltedFloats$Wave;" ∈ wsX2_copyFrom := by decide +kernel
theorem flX2_copyFrom_22 : Cond.fieldLink RX2 22 "SiltedFloats$State" "gauges" "[LSiltedFloats$Gauge;" ∈ wsX2_copyFrom := by decide +kernel
theorem flX2_copyFrom_33 : Cond.fieldLink RX2 33 "SiltedFloats$State" "hour" "I" ∈ wsX2_copyFrom := by decide +kernel
theorem flX2_copyFrom_37 : Cond.fieldLink RX2 37 "SiltedFloats$Wave" "amplitude" "I" ∈ wsX2_copyFrom := by decide +kernel
theorem flX2_copyFrom_40 : Cond.fieldLink RX2 40 "SiltedFloats$Wave" "period" "I" ∈ wsX2_copyFrom := by decide +kernel
theorem flX2_copyFrom_43 : Cond.fieldLink RX2 43 "SiltedFloats$Wave" "phase" "I" ∈ wsX2_copyFrom := by decide +kernel
theorem hyX2_copyFrom : yX2_copyFrom.cls = RX2 ∧ yX2_copyFrom.cls ≠ "java/lang/invoke/MethodHandle" ∧ yX2_copyFrom.cls ≠ "java/lang/invoke/VarHandle" ∧ (parseMethodDescriptor yX2_copyFrom.desc).map (fun d => d.parameters.length) = some 1 := by decide +kernel
set_option maxHeartbeats 4000000 in
set_option maxRecDepth 100000 in
theorem kX2_copyFrom (l : Launch) (G : xG) (t : Nat) (σ : SD) (o : Nat) (τ : SD) (hdj : t + 18 ≤ o ∨ o + 18 ≤ t) (hok : stOk τ) : Met l yX2_copyFrom wsX2_copyFrom rmX2_copyFrom (va_Pc [.ref t, .ref o] (zPre G (fun H => ST G H t σ ∧ ST G H o τ))) (zV (fun H => ST G H t τ ∧ ST G H o τ) (iv t 18)) 0 0 (iv t 18) := by
  refine z_ofW (cc := cX2_copyFrom) (maxL := 3) (ret := none) (by decide +kernel) rfl (Nat.le_of_ble_eq_true rfl) ?_
  intro p e s m below meth c hx hb hml hr hts hown hlocks hK hP ls hl
  obtain ⟨hT, hU⟩ := hP
  have hown : s.vm.findClass RX2 = some m.cls := hown
  have hl : lv_has ls 3 [(0, .ref t), (1, .ref o)] := hl
  have hS : va_S (iv t 18) s.heap s.heap [] := va_S.rf
  have cut59 : ∀ (n59 : Nat), ∀ (x2 : Int32) (i2 : Int) (_ : x2.toInt = i2), (3 - i2).toNat < n59 → (0 ≤ i2 ∧ i2 ≤ 3) → ∀ (H : Heap) (locs : List Loc), ST G H t (τ.1, cwN σ τ 3, cgN σ τ i2) → ST G H o τ → va_S (iv t 18) s.heap H locs → ∀ ls : Array Slot, lv_has ls 3 [(0, .ref t), (1, .ref o), (2, .int x2)] → W p l e rmX2_copyFrom s m ([.ref t, .ref o] : List Value).toArray below meth c H locs 0 0 (MQ below (zV (fun H => ST G H t τ ∧ ST G H o τ) (iv t 18)) ([.ref t, .ref o] : List Value).toArray s 0 0 (iv t 18)) (F0 m 59 ls []) := by
    intro n59
    induction n59 with
    | zero =>
      intro x2 i2 hx2 hmu59 hi59_0 H locs hT hU hS ls hl
      exact absurd hmu59 (Nat.not_lt_zero _)
    | succ n59 ih59 =>
      intro x2 i2 hx2 hmu59 hi59_0 H locs hT hU hS ls hl
      refine lv_iload_n hx hb dX2_copyFrom_59 rfl (lv_at hl 2 rfl) ?_
      refine lv_iconst (v := (3 : Int32)) hx hb dX2_copyFrom_60 (by decide) ?_
      refine z_icmp_ge (tgt := 85) hx hb hx2 kI_3 dX2_copyFrom_61 (by decide) (fun c_1 => ?_) (fun c_1 => ?_)
      · exact z_rv hx hb hr hlocks ⟨cpS_end hT (by omega), hU⟩ hS dX2_copyFrom_85
      · refine lv_aload_n hx hb dX2_copyFrom_64 rfl (lv_at hl 0 rfl) ?_
        refine z_get hx hb hts iwX2_copyFrom_2 hown hK hT.1 rfl 2 (by decide) flX2_copyFrom_22 rfl (v := .ref (t + 5)) rfl dX2_copyFrom_65 ?_
        refine lv_iload_n hx hb dX2_copyFrom_68 rfl (lv_at hl 2 rfl) ?_
        have hJ2 : GA G H (t + 6 + 4 * i2.toNat) ((cgN σ τ i2) i2.toNat) := hT.gauge (i := i2.toNat) (by omega)
        refine z_aald (b := t + 6 + 4 * i2.toNat) hx hb hK 3 hT.2.2.1 rfl hx2 (by omega) rfl dX2_copyFrom_69 ?_
        refine lv_aload_n hx hb dX2_copyFrom_70 rfl (lv_at hl 1 rfl) ?_
        refine z_get hx hb hts iwX2_copyFrom_2 hown hK hU.1 rfl 2 (by decide) flX2_copyFrom_22 rfl (v := .ref (o + 5)) rfl dX2_copyFrom_71 ?_
        refine lv_iload_n hx hb dX2_copyFrom_74 rfl (lv_at hl 2 rfl) ?_
        have hJ3 : GA G H (o + 6 + 4 * i2.toNat) (τ.2.2 i2.toNat) := hU.gauge (i := i2.toNat) (by omega)
        refine z_aald (b := o + 6 + 4 * i2.toNat) hx hb hK 3 hU.2.2.1 rfl hx2 (by omega) rfl dX2_copyFrom_75 ?_
        refine z_cVv (As := [.ref (o + 6 + 4 * i2.toNat)]) (rest := []) ⟨hx, hb, hml, hown, hts⟩ (kX0_copyFrom l G (t + 6 + 4 * i2.toNat) ((cgN σ τ i2) i2.toNat) (o + 6 + 4 * i2.toNat) (τ.2.2 i2.toNat) (by first | assumption | omega) ((hok.2.2 _ (by omega)).onB)) (cwV 1 hts gX2_copyFrom_X0_copyFrom rfl rfl rfl hyX0_copyFrom ⟨Nat.le_of_ble_eq_true rfl, Nat.le_of_ble_eq_true rfl⟩) hK ⟨hJ2, hJ3⟩ hJ2.1 rfl rfl hl.1 rfl (Nat.le_of_ble_eq_true rfl) dX2_copyFrom_76 ⟨Nat.zero_le _, Nat.zero_le _⟩ hS (fun q h => by simp only [iv] at h ⊢; omega) (fun H locs hB hsz hq hS => ?_)
        obtain ⟨hJ2, hJ3⟩ := hB
        have hJ2 : GA G H (t + 6 + 4 * i2.toNat) (τ.2.2 i2.toNat) := hJ2
        have hT : ST G H t (τ.1, (cwN σ τ 3), va_up (cgN σ τ i2) i2.toNat (τ.2.2 i2.toNat)) := hT.setG (i := i2.toNat) (by omega) hJ2 (fun q h1 h => hq q h1 (by simp only [iv]; omega))
        have hU := hU.kept (fun q h1 h2 => hq q (by have := hU.lt; omega) (by simp only [iv]; omega))
        refine z_iinc (k := 2) hx hb dX2_copyFrom_79 hl rfl hx2 (show (Int32.ofInt 1).toInt = (1 : Int) from rfl) (by omega) (by decide) (fun z5 e5 ls hl => ?_)
        have hl : lv_has ls 3 [(2, .int z5), (0, .ref t), (1, .ref o)] := hl
        refine lv_goto (tgt := 59) hx hb dX2_copyFrom_82 (by decide) ?_
        exact ih59 z5 (i2 + (1 : Int)) e5 (by omega) (by omega) _ _ (hT.to (by rw [cgN_s (by omega)])) hU hS ls (lv_sub hl [1, 2, 0] rfl)
  have cut10 : ∀ (n10 : Nat), ∀ (x2 : Int32) (i2 : Int) (_ : x2.toInt = i2), (3 - i2).toNat < n10 → (0 ≤ i2 ∧ i2 ≤ 3) → ∀ (H : Heap) (locs : List Loc), ST G H t (τ.1, cwN σ τ i2, σ.2.2) → ST G H o τ → va_S (iv t 18) s.heap H locs → ∀ ls : Array Slot, lv_has ls 3 [(0, .ref t), (1, .ref o), (2, .int x2)] → W p l e rmX2_copyFrom s m ([.ref t, .ref o] : List Value).toArray below meth c H locs 0 0 (MQ below (zV (fun H => ST G H t τ ∧ ST G H o τ) (iv t 18)) ([.ref t, .ref o] : List Value).toArray s 0 0 (iv t 18)) (F0 m 10 ls []) := by
    intro n10
    induction n10 with
    | zero =>
      intro x2 i2 hx2 hmu10 hi10_0 H locs hT hU hS ls hl
      exact absurd hmu10 (Nat.not_lt_zero _)
    | succ n10 ih10 =>
      intro x2 i2 hx2 hmu10 hi10_0 H locs hT hU hS ls hl
      refine lv_iload_n hx hb dX2_copyFrom_10 rfl (lv_at hl 2 rfl) ?_
      refine lv_iconst (v := (3 : Int32)) hx hb dX2_copyFrom_11 (by decide) ?_
      refine z_icmp_ge (tgt := 57) hx hb hx2 kI_3 dX2_copyFrom_12 (by decide) (fun c_6 => ?_) (fun c_6 => ?_)
      · refine lv_iconst (v := (0 : Int32)) hx hb dX2_copyFrom_57 (by decide) ?_
        refine lv_istore_n hx hb dX2_copyFrom_58 rfl hl (by decide) rfl (fun ls hl => ?_)
        have hl : lv_has ls 3 [(2, .int (0 : Int32)), (0, .ref t), (1, .ref o)] := hl
        exact cut59 (((3 - (0 : Int)).toNat) + 1) (0 : Int32) (0 : Int) kI_0 (Nat.lt_succ_self _) (by omega) _ _ (hT.to (by rw [show i2 = 3 by omega, cgN_0 (by omega)])) hU hS ls (lv_sub hl [1, 2, 0] rfl)
      · refine lv_aload_n hx hb dX2_copyFrom_15 rfl (lv_at hl 0 rfl) ?_
        refine z_get hx hb hts iwX2_copyFrom_2 hown hK hT.1 rfl 1 (by decide) flX2_copyFrom_11 rfl (v := .ref (t + 1)) rfl dX2_copyFrom_16 ?_
        refine lv_iload_n hx hb dX2_copyFrom_19 rfl (lv_at hl 2 rfl) ?_
        have hV7 : WV G H (t + 2 + i2.toNat) ((cwN σ τ i2) i2.toNat) := hT.wave (i := i2.toNat) (by omega)
        refine z_aald (b := t + 2 + i2.toNat) hx hb hK 2 hT.2.1 rfl hx2 (by omega) rfl dX2_copyFrom_20 ?_
        refine lv_aload_n hx hb dX2_copyFrom_21 rfl (lv_at hl 1 rfl) ?_
        refine z_get hx hb hts iwX2_copyFrom_2 hown hK hU.1 rfl 1 (by decide) flX2_copyFrom_11 rfl (v := .ref (o + 1)) rfl dX2_copyFrom_22 ?_
        refine lv_iload_n hx hb dX2_copyFrom_25 rfl (lv_at hl 2 rfl) ?_
        have hV8 : WV G H (o + 2 + i2.toNat) (τ.2.1 i2.toNat) := hU.wave (i := i2.toNat) (by omega)
        refine z_aald (b := o + 2 + i2.toNat) hx hb hK 2 hU.2.1 rfl hx2 (by omega) rfl dX2_copyFrom_26 ?_
        refine z_get hx hb hts iwX2_copyFrom_3 hown hK hV8 rfl 0 (by decide) flX2_copyFrom_37 rfl (v := .int ((τ.2.1 i2.toNat) 0)) rfl dX2_copyFrom_27 ?_
        refine lv_aload_n hx hb dX2_copyFrom_30 rfl (lv_at hl 1 rfl) ?_
        refine z_get hx hb hts iwX2_copyFrom_2 hown hK hU.1 rfl 1 (by decide) flX2_copyFrom_11 rfl (v := .ref (o + 1)) rfl dX2_copyFrom_31 ?_
        refine lv_iload_n hx hb dX2_copyFrom_34 rfl (lv_at hl 2 rfl) ?_
        refine z_aald (b := o + 2 + i2.toNat) hx hb hK 2 hU.2.1 rfl hx2 (by omega) rfl dX2_copyFrom_35 ?_
        refine z_get hx hb hts iwX2_copyFrom_3 hown hK hV8 rfl 1 (by decide) flX2_copyFrom_40 rfl (v := .int ((τ.2.1 i2.toNat) 1)) rfl dX2_copyFrom_36 ?_
        refine lv_aload_n hx hb dX2_copyFrom_39 rfl (lv_at hl 1 rfl) ?_
        refine z_get hx hb hts iwX2_copyFrom_2 hown hK hU.1 rfl 1 (by decide) flX2_copyFrom_11 rfl (v := .ref (o + 1)) rfl dX2_copyFrom_40 ?_
        refine lv_iload_n hx hb dX2_copyFrom_43 rfl (lv_at hl 2 rfl) ?_
        refine z_aald (b := o + 2 + i2.toNat) hx hb hK 2 hU.2.1 rfl hx2 (by omega) rfl dX2_copyFrom_44 ?_
        refine z_get hx hb hts iwX2_copyFrom_3 hown hK hV8 rfl 2 (by decide) flX2_copyFrom_43 rfl (v := .int ((τ.2.1 i2.toNat) 2)) rfl dX2_copyFrom_45 ?_
        refine z_cVv (As := [.int ((τ.2.1 i2.toNat) 0), .int ((τ.2.1 i2.toNat) 1), .int ((τ.2.1 i2.toNat) 2)]) (rest := []) ⟨hx, hb, hml, hown, hts⟩ (kX3_become l G (t + 2 + i2.toNat) ((cwN σ τ i2) i2.toNat) ((τ.2.1 i2.toNat) 0) (((τ.2.1 i2.toNat) 0).toInt) rfl ((τ.2.1 i2.toNat) 1) (((τ.2.1 i2.toNat) 1).toInt) rfl ((τ.2.1 i2.toNat) 2) (((τ.2.1 i2.toNat) 2).toInt) rfl) (cwV 3 hts gX2_copyFrom_X3_become rfl rfl rfl hyX3_become ⟨Nat.le_of_ble_eq_true rfl, Nat.le_of_ble_eq_true rfl⟩) hK hV7 hV7 rfl rfl hl.1 rfl (Nat.le_of_ble_eq_true rfl) dX2_copyFrom_48 ⟨Nat.zero_le _, Nat.zero_le _⟩ hS (fun q h => by simp only [iv] at h ⊢; omega) (fun H locs hB hsz hq hS => ?_)
        have hV7 := hB
        have hV7 : WV G H (t + 2 + i2.toNat) (upd (upd (upd ((cwN σ τ i2) i2.toNat) 0 ((τ.2.1 i2.toNat) 0)) 1 ((τ.2.1 i2.toNat) 1)) 2 ((τ.2.1 i2.toNat) 2)) := hV7
        have hT : ST G H t (τ.1, va_up (cwN σ τ i2) i2.toNat (upd (upd (upd ((cwN σ τ i2) i2.toNat) 0 ((τ.2.1 i2.toNat) 0)) 1 ((τ.2.1 i2.toNat) 1)) 2 ((τ.2.1 i2.toNat) 2)), σ.2.2) := hT.setW (i := i2.toNat) (by omega) hV7 (fun q h1 h => hq q h1 (by simp only [iv]; omega))
        have hU := hU.kept (fun q h1 h2 => hq q (by have := hU.lt; omega) (by simp only [iv]; omega))
        have hV8 : WV G H (o + 2 + i2.toNat) (τ.2.1 i2.toNat) := hU.wave (i := i2.toNat) (by omega)
        refine z_iinc (k := 2) hx hb dX2_copyFrom_51 hl rfl hx2 (show (Int32.ofInt 1).toInt = (1 : Int) from rfl) (by omega) (by decide) (fun z10 e10 ls hl => ?_)
        have hl : lv_has ls 3 [(2, .int z10), (0, .ref t), (1, .ref o)] := hl
        refine lv_goto (tgt := 10) hx hb dX2_copyFrom_54 (by decide) ?_
        exact ih10 z10 (i2 + (1 : Int)) e10 (by omega) (by omega) _ _ (hT.to (by rw [← cwN_s (by omega)]; rfl)) hU hS ls (lv_sub hl [1, 2, 0] rfl)
  refine lv_aload_n hx hb dX2_copyFrom_0 rfl (lv_at hl 0 rfl) ?_
  refine lv_aload_n hx hb dX2_copyFrom_1 rfl (lv_at hl 1 rfl) ?_
  refine z_get hx hb hts iwX2_copyFrom_2 hown hK hU.1 rfl 0 (by decide) flX2_copyFrom_33 rfl (v := .int τ.1) rfl dX2_copyFrom_2 ?_
  refine z_putS hx hb hts iwX2_copyFrom_2 hown hK hT hS (by simp only [iv]; omega) flX2_copyFrom_33 dX2_copyFrom_5 (fun H locs hT hsz hq hS => ?_)
  have hT : ST G H t (τ.1, σ.2.1, σ.2.2) := hT
  have hU := hU.kept (fun q h1 h2 => hq q (by omega))
  refine lv_iconst (v := (0 : Int32)) hx hb dX2_copyFrom_8 (by decide) ?_
  refine lv_istore_n hx hb dX2_copyFrom_9 rfl hl (by decide) rfl (fun ls hl => ?_)
  have hl : lv_has ls 3 [(2, .int (0 : Int32)), (0, .ref t), (1, .ref o)] := hl
  exact cut10 (((3 - (0 : Int)).toNat) + 1) (0 : Int32) (0 : Int) kI_0 (Nat.lt_succ_self _) (by omega) _ _ (hT.to (by rw [cwN_0 (by omega)])) hU hS ls (lv_sub hl [1, 2, 0] rfl)
