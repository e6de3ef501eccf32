abbrev rmX4_setRate : Room := { frames := 4, cells := 0, slots := 0, locals := 111 }
theorem iwX4_setRate_0 : ∀ w ∈ wsX00, w ∈ wsX4_setRate := fun _ h => List.mem_cons_of_mem _ (List.mem_append_left _ (List.mem_append_right _ h))
theorem iwX4_setRate_2 : ∀ w ∈ wsX20, w ∈ wsX4_setRate := fun _ h => List.mem_cons_of_mem _ (List.mem_append_left _ (List.mem_append_left _ (List.mem_append_right _ h)))
theorem iwX4_setRate_4 : ∀ w ∈ wsX40, w ∈ wsX4_setRate := fun _ h => List.mem_cons_of_mem _ (List.mem_append_left _ (List.mem_append_left _ (List.mem_append_left _ (List.mem_append_right _ h))))
theorem flX4_setRate_10 : Cond.fieldLink RX4 10 "SiltedFloats" "now" "LSiltedFloats$State;" ∈ wsX4_setRate := by decide +kernel
theorem flX4_setRate_66 : Cond.fieldLink RX4 66 "SiltedFloats$State" "gauges" "[LSiltedFloats$Gauge;" ∈ wsX4_setRate := by decide +kernel
theorem flX4_setRate_81 : Cond.fieldLink RX4 81 "SiltedFloats$Gauge" "sinking" "I" ∈ wsX4_setRate := by decide +kernel
theorem flX4_setRate_84 : Cond.fieldLink RX4 84 "SiltedFloats$Gauge" "silting" "I" ∈ wsX4_setRate := by decide +kernel
theorem hyX4_setRate : yX4_setRate.cls = RX4 ∧ yX4_setRate.cls ≠ "java/lang/invoke/MethodHandle" ∧ yX4_setRate.cls ≠ "java/lang/invoke/VarHandle" ∧ (parseMethodDescriptor yX4_setRate.desc).map (fun d => d.parameters.length) = some 3 := by decide +kernel
set_option maxHeartbeats 4000000 in
set_option maxRecDepth 100000 in
theorem kX4_setRate (l : Launch) (G : xG) (z : Nat) (σ : FD) (xt : Int32) (t : Int) (e_xt : xt.toInt = t) (xs : Int32) (b : Int) (e_xs : xs.toInt = b) (xh : Int32) (h : Int) (e_xh : xh.toInt = h) (hok : fdOk σ) (hb01 : b = 0 ∨ b = 1) : Met l yX4_setRate wsX4_setRate rmX4_setRate (va_Pc [.ref z, .int xt, .int xs, .int xh] (zPre G (fun H => SFP G H z σ))) (zW (fun v => v.toInt = a_setRate σ t b h) (fun H => SFP G H z (s_setRate σ t b h xh)) (iv z 112)) 0 0 (iv z 112) := by
  refine z_ofW (cc := cX4_setRate) (maxL := 6) (ret := some .int) (by decide +kernel) rfl (Nat.le_of_ble_eq_true rfl) ?_
  intro p e s m below meth c hx hb hml hr hts hown hlocks hK hP ls hl
  have hF := hP
  have hown : s.vm.findClass RX4 = some m.cls := hown
  have hl : lv_has ls 6 [(0, .ref z), (1, .int xt), (2, .int xs), (3, .int xh)] := hl
  have hS : va_S (iv z 112) s.heap s.heap [] := va_S.rf
  have hok1 := hok.1
  have hokh := hok1.1
  refine lv_iload_n hx hb dX4_setRate_0 rfl (lv_at hl 1 rfl) ?_
  refine z_cS (As := [.int xt]) (rest := []) ⟨hx, hb, hml, hown, hts⟩ (kX4_isStation l G xt t e_xt) (va_cwS 1 hts gX4_setRate_X4_isStation rfl rfl rfl hyX4_isStation ⟨Nat.le_of_ble_eq_true rfl, Nat.le_of_ble_eq_true rfl⟩) hK trivial rfl hl.1 rfl (Nat.le_of_ble_eq_true rfl) dX4_setRate_1 ⟨Nat.zero_le _, Nat.zero_le _⟩ (fun z1 e1 => ?_)
  have e1 : isB z1 (0 ≤ t ∧ t < 3) := e1
  refine z_ifb_ne (tgt := 9) hx hb e1 dX4_setRate_4 (by decide) (fun c_2 => ?_) (fun c_2 => ?_)
  · refine lv_iload_n hx hb dX4_setRate_9 rfl (lv_at hl 3 rfl) ?_
    refine lv_iconst (v := (0 : Int32)) hx hb dX4_setRate_10 (by decide) ?_
    refine lv_bipush (v := (20 : Int32)) hx hb dX4_setRate_11 (by decide) ?_
    refine z_cS (As := [.int xh, .int (0 : Int32), .int (20 : Int32)]) (rest := []) ⟨hx, hb, hml, hown, hts⟩ (kX4_isWithin l G xh h e_xh (0 : Int32) (0 : Int) kI_0 (20 : Int32) (20 : Int) kI_20) (va_cwS 3 hts gX4_setRate_X4_isWithin rfl rfl rfl hyX4_isWithin ⟨Nat.le_of_ble_eq_true rfl, Nat.le_of_ble_eq_true rfl⟩) hK trivial rfl hl.1 rfl (Nat.le_of_ble_eq_true rfl) dX4_setRate_13 ⟨Nat.zero_le _, Nat.zero_le _⟩ (fun z3 e3 => ?_)
    have e3 : isB z3 ((0 : Int) ≤ h ∧ h ≤ (20 : Int)) := e3
    refine z_ifb_ne (tgt := 22) hx hb e3 dX4_setRate_16 (by decide) (fun c_4 => ?_) (fun c_4 => ?_)
    · refine lv_aload_n hx hb dX4_setRate_22 rfl (lv_at hl 0 rfl) ?_
      have hN5 : ST G s.heap (z + 1) σ.1 := hF.now
      refine z_get hx hb hts iwX4_setRate_4 hown hK hF.1 rfl 0 (by decide) flX4_setRate_10 rfl (v := .ref (z + 1)) rfl dX4_setRate_23 ?_
      refine z_get hx hb hts iwX4_setRate_2 hown hK hN5.1 rfl 2 (by decide) flX4_setRate_66 rfl (v := .ref ((z + 1) + 5)) rfl dX4_setRate_26 ?_
      refine lv_iload_n hx hb dX4_setRate_29 rfl (lv_at hl 1 rfl) ?_
      have hJ6 : GA G s.heap ((z + 1) + 6 + 4 * t.toNat) (σ.1.2.2 t.toNat) := hN5.gauge (i := t.toNat) (by omega)
      refine z_aald (b := (z + 1) + 6 + 4 * t.toNat) hx hb hK 3 hN5.2.2.1 rfl e_xt (by omega) rfl dX4_setRate_30 ?_
      refine lv_astore hx hb dX4_setRate_31 hl (by decide) rfl (fun ls hl => ?_)
      have hl : lv_has ls 6 [(4, .ref ((z + 1) + 6 + 4 * t.toNat)), (0, .ref z), (1, .int xt), (2, .int xs), (3, .int xh)] := hl
      refine lv_iload_n hx hb dX4_setRate_33 rfl (lv_at hl 3 rfl) ?_
      refine z_if_eq (tgt := 45) hx hb e_xs dX4_setRate_34 (by decide) (fun c_7 => ?_) (fun c_7 => ?_)
      · refine lv_aload hx hb dX4_setRate_45 (lv_at hl 0 rfl) ?_
        refine z_get hx hb hts iwX4_setRate_0 hown hK hJ6.1 rfl 5 (by decide) flX4_setRate_84 rfl (v := .int (((σ.1.2.2 t.toNat).1) 5)) rfl dX4_setRate_47 ?_
        refine lv_istore hx hb dX4_setRate_50 hl (by decide) rfl (fun ls hl => ?_)
        have hl : lv_has ls 6 [(5, .int (((σ.1.2.2 t.toNat).1) 5)), (4, .ref ((z + 1) + 6 + 4 * t.toNat)), (0, .ref z), (1, .int xt), (2, .int xs), (3, .int xh)] := hl
        refine lv_iload hx hb dX4_setRate_52 (lv_at hl 0 rfl) ?_
        refine lv_iload_n hx hb dX4_setRate_54 rfl (lv_at hl 5 rfl) ?_
        refine z_icmp_ne (tgt := 61) hx hb rfl e_xh dX4_setRate_55 (by decide) (fun c_8 => ?_) (fun c_8 => ?_)
        · refine lv_aload_n hx hb dX4_setRate_61 rfl (lv_at hl 2 rfl) ?_
          refine z_cVv (As := []) (rest := []) ⟨hx, hb, hml, hown, hts⟩ (kX4_remember l G z σ (by first | assumption | omega)) (cwV 0 hts gX4_setRate_X4_remember rfl rfl rfl hyX4_remember ⟨Nat.le_of_ble_eq_true rfl, Nat.le_of_ble_eq_true rfl⟩) hK hF hF.1 rfl rfl hl.1 rfl (Nat.le_of_ble_eq_true rfl) dX4_setRate_62 ⟨Nat.zero_le _, Nat.zero_le _⟩ hS (fun q h => by simp only [iv] at h ⊢; omega) (fun H locs hB hsz hq hS => ?_)
          have hF := hB
          have hF : SFP G H z (σ.1, σ.2.1, σ.2.2.1, (rmF σ).2.2.2.1, (rmF σ).2.2.2.2.1, (rmF σ).2.2.2.2.2.1, σ.2.2.2.2.2.2) := hF
          have hN5 : ST G H (z + 1) σ.1 := hF.now
          have hJ6 : GA G H ((z + 1) + 6 + 4 * t.toNat) (σ.1.2.2 t.toNat) := hN5.gauge (i := t.toNat) (by omega)
          refine lv_iload_n hx hb dX4_setRate_65 rfl (lv_at hl 4 rfl) ?_
          refine z_if_eq (tgt := 78) hx hb e_xs dX4_setRate_66 (by decide) (fun c_10 => ?_) (fun c_10 => ?_)
          · refine lv_aload hx hb dX4_setRate_78 (lv_at hl 1 rfl) ?_
            refine lv_iload_n hx hb dX4_setRate_80 rfl (lv_at hl 5 rfl) ?_
            refine z_putG hx hb hts iwX4_setRate_0 hown hK hJ6 hS (by simp only [iv]; omega) 5 (by decide) flX4_setRate_84 rfl rfl (ty := .int) rfl rfl rfl dX4_setRate_81 (fun H locs hJ6 hsz hq hS => ?_)
            have hJ6 : GA G H ((z + 1) + 6 + 4 * t.toNat) (upd ((σ.1.2.2 t.toNat).1) 5 xh, (σ.1.2.2 t.toNat).2.1, (σ.1.2.2 t.toNat).2.2.1, (σ.1.2.2 t.toNat).2.2.2) := hJ6
            have hN5 : ST G H (z + 1) (σ.1.1, σ.1.2.1, va_up σ.1.2.2 t.toNat (upd ((σ.1.2.2 t.toNat).1) 5 xh, (σ.1.2.2 t.toNat).2.1, (σ.1.2.2 t.toNat).2.2.1, (σ.1.2.2 t.toNat).2.2.2)) := hN5.setG (i := t.toNat) (by omega) hJ6 (fun q h1 h => hq q (by omega))
            have hF : SFP G H z ((σ.1.1, σ.1.2.1, va_up σ.1.2.2 t.toNat (upd ((σ.1.2.2 t.toNat).1) 5 xh, (σ.1.2.2 t.toNat).2.1, (σ.1.2.2 t.toNat).2.2.1, (σ.1.2.2 t.toNat).2.2.2)), σ.2.1, σ.2.2.1, ((rmF σ).2.2.2.1), ((rmF σ).2.2.2.2.1), ((rmF σ).2.2.2.2.2.1), σ.2.2.2.2.2.2) := hF.setNow hN5 (fun q h1 h => hq q (by omega))
            refine lv_iload hx hb dX4_setRate_84 (lv_at hl 0 rfl) ?_
            exact z_riw (v := ((σ.1.2.2 t.toNat).1) 5) hx hb hr hlocks (show (((σ.1.2.2 t.toNat).1) 5).toInt = a_setRate σ t b h from (by unfold a_setRate; (repeat' split) <;> first | rfl | omega | contradiction | assumption)) (hF.to (by unfold s_setRate; (repeat' split) <;> first | rfl | omega | contradiction)) hS dX4_setRate_86
          · refine lv_aload hx hb dX4_setRate_69 (lv_at hl 1 rfl) ?_
            refine lv_iload_n hx hb dX4_setRate_71 rfl (lv_at hl 5 rfl) ?_
            refine z_putG hx hb hts iwX4_setRate_0 hown hK hJ6 hS (by simp only [iv]; omega) 6 (by decide) flX4_setRate_81 rfl rfl (ty := .int) rfl rfl rfl dX4_setRate_72 (fun H locs hJ6 hsz hq hS => ?_)
            have hJ6 : GA G H ((z + 1) + 6 + 4 * t.toNat) (upd ((σ.1.2.2 t.toNat).1) 6 xh, (σ.1.2.2 t.toNat).2.1, (σ.1.2.2 t.toNat).2.2.1, (σ.1.2.2 t.toNat).2.2.2) := hJ6
            have hN5 : ST G H (z + 1) (σ.1.1, σ.1.2.1, va_up σ.1.2.2 t.toNat (upd ((σ.1.2.2 t.toNat).1) 6 xh, (σ.1.2.2 t.toNat).2.1, (σ.1.2.2 t.toNat).2.2.1, (σ.1.2.2 t.toNat).2.2.2)) := hN5.setG (i := t.toNat) (by omega) hJ6 (fun q h1 h => hq q (by omega))
            have hF : SFP G H z ((σ.1.1, σ.1.2.1, va_up σ.1.2.2 t.toNat (upd ((σ.1.2.2 t.toNat).1) 6 xh, (σ.1.2.2 t.toNat).2.1, (σ.1.2.2 t.toNat).2.2.1, (σ.1.2.2 t.toNat).2.2.2)), σ.2.1, σ.2.2.1, ((rmF σ).2.2.2.1), ((rmF σ).2.2.2.2.1), ((rmF σ).2.2.2.2.2.1), σ.2.2.2.2.2.2) := hF.setNow hN5 (fun q h1 h => hq q (by omega))
            refine lv_goto (tgt := 84) hx hb dX4_setRate_75 (by decide) ?_
            refine lv_iload hx hb dX4_setRate_84 (lv_at hl 0 rfl) ?_
            exact z_riw (v := ((σ.1.2.2 t.toNat).1) 5) hx hb hr hlocks (show (((σ.1.2.2 t.toNat).1) 5).toInt = a_setRate σ t b h from (by unfold a_setRate; (repeat' split) <;> first | rfl | omega | contradiction | assumption)) (hF.to (by unfold s_setRate; (repeat' split) <;> first | rfl | omega | contradiction)) hS dX4_setRate_86
        · refine lv_bipush (v := (-5 : Int32)) hx hb dX4_setRate_58 (by decide) ?_
          exact z_riw (v := (-5 : Int32)) hx hb hr hlocks (show (-5 : Int32).toInt = a_setRate σ t b h from (by unfold a_setRate; (repeat' split) <;> first | rfl | omega | contradiction | assumption)) (hF.to (by unfold s_setRate; (repeat' split) <;> first | rfl | omega | contradiction)) hS dX4_setRate_60
      · refine lv_aload hx hb dX4_setRate_37 (lv_at hl 0 rfl) ?_
        refine z_get hx hb hts iwX4_setRate_0 hown hK hJ6.1 rfl 6 (by decide) flX4_setRate_81 rfl (v := .int (((σ.1.2.2 t.toNat).1) 6)) rfl dX4_setRate_39 ?_
        refine lv_goto (tgt := 50) hx hb dX4_setRate_42 (by decide) ?_
        refine lv_istore hx hb dX4_setRate_50 hl (by decide) rfl (fun ls hl => ?_)
        have hl : lv_has ls 6 [(5, .int (((σ.1.2.2 t.toNat).1) 6)), (4, .ref ((z + 1) + 6 + 4 * t.toNat)), (0, .ref z), (1, .int xt), (2, .int xs), (3, .int xh)] := hl
        refine lv_iload hx hb dX4_setRate_52 (lv_at hl 0 rfl) ?_
        refine lv_iload_n hx hb dX4_setRate_54 rfl (lv_at hl 5 rfl) ?_
        refine z_icmp_ne (tgt := 61) hx hb rfl e_xh dX4_setRate_55 (by decide) (fun c_11 => ?_) (fun c_11 => ?_)
        · refine lv_aload_n hx hb dX4_setRate_61 rfl (lv_at hl 2 rfl) ?_
          refine z_cVv (As := []) (rest := []) ⟨hx, hb, hml, hown, hts⟩ (kX4_remember l G z σ (by first | assumption | omega)) (cwV 0 hts gX4_setRate_X4_remember rfl rfl rfl hyX4_remember ⟨Nat.le_of_ble_eq_true rfl, Nat.le_of_ble_eq_true rfl⟩) hK hF hF.1 rfl rfl hl.1 rfl (Nat.le_of_ble_eq_true rfl) dX4_setRate_62 ⟨Nat.zero_le _, Nat.zero_le _⟩ hS (fun q h => by simp only [iv] at h ⊢; omega) (fun H locs hB hsz hq hS => ?_)
          have hF := hB
          have hF : SFP G H z (σ.1, σ.2.1, σ.2.2.1, (rmF σ).2.2.2.1, (rmF σ).2.2.2.2.1, (rmF σ).2.2.2.2.2.1, σ.2.2.2.2.2.2) := hF
          have hN5 : ST G H (z + 1) σ.1 := hF.now
          have hJ6 : GA G H ((z + 1) + 6 + 4 * t.toNat) (σ.1.2.2 t.toNat) := hN5.gauge (i := t.toNat) (by omega)
          refine lv_iload_n hx hb dX4_setRate_65 rfl (lv_at hl 4 rfl) ?_
          refine z_if_eq (tgt := 78) hx hb e_xs dX4_setRate_66 (by decide) (fun c_13 => ?_) (fun c_13 => ?_)
          · refine lv_aload hx hb dX4_setRate_78 (lv_at hl 1 rfl) ?_
            refine lv_iload_n hx hb dX4_setRate_80 rfl (lv_at hl 5 rfl) ?_
            refine z_putG hx hb hts iwX4_setRate_0 hown hK hJ6 hS (by simp only [iv]; omega) 5 (by decide) flX4_setRate_84 rfl rfl (ty := .int) rfl rfl rfl dX4_setRate_81 (fun H locs hJ6 hsz hq hS => ?_)
            have hJ6 : GA G H ((z + 1) + 6 + 4 * t.toNat) (upd ((σ.1.2.2 t.toNat).1) 5 xh, (σ.1.2.2 t.toNat).2.1, (σ.1.2.2 t.toNat).2.2.1, (σ.1.2.2 t.toNat).2.2.2) := hJ6
            have hN5 : ST G H (z + 1) (σ.1.1, σ.1.2.1, va_up σ.1.2.2 t.toNat (upd ((σ.1.2.2 t.toNat).1) 5 xh, (σ.1.2.2 t.toNat).2.1, (σ.1.2.2 t.toNat).2.2.1, (σ.1.2.2 t.toNat).2.2.2)) := hN5.setG (i := t.toNat) (by omega) hJ6 (fun q h1 h => hq q (by omega))
            have hF : SFP G H z ((σ.1.1, σ.1.2.1, va_up σ.1.2.2 t.toNat (upd ((σ.1.2.2 t.toNat).1) 5 xh, (σ.1.2.2 t.toNat).2.1, (σ.1.2.2 t.toNat).2.2.1, (σ.1.2.2 t.toNat).2.2.2)), σ.2.1, σ.2.2.1, ((rmF σ).2.2.2.1), ((rmF σ).2.2.2.2.1), ((rmF σ).2.2.2.2.2.1), σ.2.2.2.2.2.2) := hF.setNow hN5 (fun q h1 h => hq q (by omega))
            refine lv_iload hx hb dX4_setRate_84 (lv_at hl 0 rfl) ?_
            exact z_riw (v := ((σ.1.2.2 t.toNat).1) 6) hx hb hr hlocks (show (((σ.1.2.2 t.toNat).1) 6).toInt = a_setRate σ t b h from (by unfold a_setRate; (repeat' split) <;> first | rfl | omega | contradiction | assumption)) (hF.to (by unfold s_setRate; (repeat' split) <;> first | rfl | omega | contradiction)) hS dX4_setRate_86
          · refine lv_aload hx hb dX4_setRate_69 (lv_at hl 1 rfl) ?_
            refine lv_iload_n hx hb dX4_setRate_71 rfl (lv_at hl 5 rfl) ?_
            refine z_putG hx hb hts iwX4_setRate_0 hown hK hJ6 hS (by simp only [iv]; omega) 6 (by decide) flX4_setRate_81 rfl rfl (ty := .int) rfl rfl rfl dX4_setRate_72 (fun H locs hJ6 hsz hq hS => ?_)
            have hJ6 : GA G H ((z + 1) + 6 + 4 * t.toNat) (upd ((σ.1.2.2 t.toNat).1) 6 xh, (σ.1.2.2 t.toNat).2.1, (σ.1.2.2 t.toNat).2.2.1, (σ.1.2.2 t.toNat).2.2.2) := hJ6
            have hN5 : ST G H (z + 1) (σ.1.1, σ.1.2.1, va_up σ.1.2.2 t.toNat (upd ((σ.1.2.2 t.toNat).1) 6 xh, (σ.1.2.2 t.toNat).2.1, (σ.1.2.2 t.toNat).2.2.1, (σ.1.2.2 t.toNat).2.2.2)) := hN5.setG (i := t.toNat) (by omega) hJ6 (fun q h1 h => hq q (by omega))
            have hF : SFP G H z ((σ.1.1, σ.1.2.1, va_up σ.1.2.2 t.toNat (upd ((σ.1.2.2 t.toNat).1) 6 xh, (σ.1.2.2 t.toNat).2.1, (σ.1.2.2 t.toNat).2.2.1, (σ.1.2.2 t.toNat).2.2.2)), σ.2.1, σ.2.2.1, ((rmF σ).2.2.2.1), ((rmF σ).2.2.2.2.1), ((rmF σ).2.2.2.2.2.1), σ.2.2.2.2.2.2) := hF.setNow hN5 (fun q h1 h => hq q (by omega))
            refine lv_goto (tgt := 84) hx hb dX4_setRate_75 (by decide) ?_
            refine lv_iload hx hb dX4_setRate_84 (lv_at hl 0 rfl) ?_
            exact z_riw (v := ((σ.1.2.2 t.toNat).1) 6) hx hb hr hlocks (show (((σ.1.2.2 t.toNat).1) 6).toInt = a_setRate σ t b h from (by unfold a_setRate; (repeat' split) <;> first | rfl | omega | contradiction | assumption)) (hF.to (by unfold s_setRate; (repeat' split) <;> first | rfl | omega | contradiction)) hS dX4_setRate_86
        · refine lv_bipush (v := (-5 : Int32)) hx hb dX4_setRate_58 (by decide) ?_
          exact z_riw (v := (-5 : Int32)) hx hb hr hlocks (show (-5 : Int32).toInt = a_setRate σ t b h from (by unfold a_setRate; (repeat' split) <;> first | rfl | omega | contradiction | assumption)) (hF.to (by unfold s_setRate; (repeat' split) <;> first | rfl | omega | contradiction)) hS dX4_setRate_60
    · refine lv_bipush (v := (-2 : Int32)) hx hb dX4_setRate_19 (by decide) ?_
      exact z_riw (v := (-2 : Int32)) hx hb hr hlocks (show (-2 : Int32).toInt = a_setRate σ t b h from (by unfold a_setRate; (repeat' split) <;> first | rfl | omega | contradiction | assumption)) (hF.to (by unfold s_setRate; (repeat' split) <;> first | rfl | omega | contradiction)) hS dX4_setRate_21
  · refine lv_iconst (v := (-1 : Int32)) hx hb dX4_setRate_7 (by decide) ?_
    exact z_riw (v := (-1 : Int32)) hx hb hr hlocks (show (-1 : Int32).toInt = a_setRate σ t b h from (by unfold a_setRate; (repeat' split) <;> first | rfl | omega | contradiction | assumption)) (hF.to (by unfold s_setRate; (repeat' split) <;> first | rfl | omega | contradiction)) hS dX4_setRate_8

abbrev rmX4_turn : Room := { frames := 4, cells := 0, slots := 0, locals := 111 }
theorem iwX4_turn_0 : ∀ w ∈ wsX00, w ∈ wsX4_turn := fun _ h => List.mem_cons_of_mem _ (List.mem_append_left _ (List.mem_append_right _ h))
theorem iwX4_turn_2 : ∀ w ∈ wsX20, w ∈ wsX4_turn := fun _ h => List.mem_cons_of_mem _ (List.mem_append_left _ (List.mem_append_left _ (List.mem_append_right _ h)))
theorem iwX4_turn_4 : ∀ w ∈ wsX40, w ∈ wsX4_turn := fun _ h => List.mem_cons_of_mem _ (List.mem_append_left _ (List.mem_append_left _ (List.mem_append_left _ (List.mem_append_right _ h))))
theorem flX4_turn_10 : Cond.fieldLink RX4 10 "SiltedFloats" "now" "LSiltedFloats$State;" ∈ wsX4_turn := by decide +kernel
theorem flX4_turn_66 : Cond.fieldLink RX4 66 "SiltedFloats$State" "gauges" "[LSiltedFloats$Gauge;" ∈ wsX4_turn := by decide +kernel
theorem flX4_turn_87 : Cond.fieldLink RX4 87 "SiltedFloats$Gauge" "on" "Z" ∈ wsX4_turn := by decide +kernel
theorem hyX4_turn : yX4_turn.cls = RX4 ∧ yX4_turn.cls ≠ "java/lang/invoke/MethodHandle" ∧ yX4_turn.cls ≠ "java/lang/invoke/VarHandle" ∧ (parseMethodDescriptor yX4_turn.desc).map (fun d => d.parameters.length) = some 2 := by decide +kernel
set_option maxHeartbeats 4000000 in
set_option maxRecDepth 100000 in
theorem kX4_turn (l : Launch) (G : xG) (z : Nat) (σ : FD) (xt : Int32) (t : Int) (e_xt : xt.toInt = t) (xb : Int32) (b : Int) (e_xb : xb.toInt = b) (hok : fdOk σ) (hb01 : b = 0 ∨ b = 1) : Met l yX4_turn wsX4_turn rmX4_turn (va_Pc [.ref z, .int xt, .int xb] (zPre G (fun H => SFP G H z σ))) (zW (fun v => v.toInt = a_turn σ t b xb) (fun H => SFP G H z (s_turn σ t b xb)) (iv z 112)) 0 0 (iv z 112) := by
  refine z_ofW (cc := cX4_turn) (maxL := 4) (ret := some .int) (by decide +kernel) rfl (Nat.le_of_ble_eq_true rfl) ?_
  intro p e s m below meth c hx hb hml hr hts hown hlocks hK hP ls hl
  have hF := hP
  have hown : s.vm.findClass RX4 = some m.cls := hown
  have hl : lv_has ls 4 [(0, .ref z), (1, .int xt), (2, .int xb)] := hl
  have hS : va_S (iv z 112) s.heap s.heap [] := va_S.rf
  have hok1 := hok.1
  have hokh := hok1.1
  have hbB : isB xb (xb.toInt = 1) := by unfold isB; omega
  refine lv_iload_n hx hb dX4_turn_0 rfl (lv_at hl 1 rfl) ?_
  refine z_cS (As := [.int xt]) (rest := []) ⟨hx, hb, hml, hown, hts⟩ (kX4_isStation l G xt t e_xt) (va_cwS 1 hts gX4_turn_X4_isStation rfl rfl rfl hyX4_isStation ⟨Nat.le_of_ble_eq_true rfl, Nat.le_of_ble_eq_true rfl⟩) hK trivial rfl hl.1 rfl (Nat.le_of_ble_eq_true rfl) dX4_turn_1 ⟨Nat.zero_le _, Nat.zero_le _⟩ (fun z1 e1 => ?_)
  have e1 : isB z1 (0 ≤ t ∧ t < 3) := e1
  refine z_ifb_ne (tgt := 9) hx hb e1 dX4_turn_4 (by decide) (fun c_2 => ?_) (fun c_2 => ?_)
  · refine lv_aload_n hx hb dX4_turn_9 rfl (lv_at hl 0 rfl) ?_
    have hN3 : ST G s.heap (z + 1) σ.1 := hF.now
    refine z_get hx hb hts iwX4_turn_4 hown hK hF.1 rfl 0 (by decide) flX4_turn_10 rfl (v := .ref (z + 1)) rfl dX4_turn_10 ?_
    refine z_get hx hb hts iwX4_turn_2 hown hK hN3.1 rfl 2 (by decide) flX4_turn_66 rfl (v := .ref ((z + 1) + 5)) rfl dX4_turn_13 ?_
    refine lv_iload_n hx hb dX4_turn_16 rfl (lv_at hl 1 rfl) ?_
    have hJ4 : GA G s.heap ((z + 1) + 6 + 4 * t.toNat) (σ.1.2.2 t.toNat) := hN3.gauge (i := t.toNat) (by omega)
    refine z_aald (b := (z + 1) + 6 + 4 * t.toNat) hx hb hK 3 hN3.2.2.1 rfl e_xt (by omega) rfl dX4_turn_17 ?_
    refine lv_astore_n hx hb dX4_turn_18 rfl hl (by decide) rfl (fun ls hl => ?_)
    have hl : lv_has ls 4 [(3, .ref ((z + 1) + 6 + 4 * t.toNat)), (0, .ref z), (1, .int xt), (2, .int xb)] := hl
    refine lv_aload_n hx hb dX4_turn_19 rfl (lv_at hl 0 rfl) ?_
    refine z_get hx hb hts iwX4_turn_0 hown hK hJ4.1 rfl 8 (by decide) flX4_turn_87 rfl (v := .int (((σ.1.2.2 t.toNat).1) 8)) rfl dX4_turn_20 ?_
    refine lv_iload_n hx hb dX4_turn_23 rfl (lv_at hl 3 rfl) ?_
    refine z_icmp_ne (tgt := 30) hx hb rfl e_xb dX4_turn_24 (by decide) (fun c_5 => ?_) (fun c_5 => ?_)
    · refine lv_aload_n hx hb dX4_turn_30 rfl (lv_at hl 1 rfl) ?_
      refine z_cVv (As := []) (rest := []) ⟨hx, hb, hml, hown, hts⟩ (kX4_remember l G z σ (by first | assumption | omega)) (cwV 0 hts gX4_turn_X4_remember rfl rfl rfl hyX4_remember ⟨Nat.le_of_ble_eq_true rfl, Nat.le_of_ble_eq_true rfl⟩) hK hF hF.1 rfl rfl hl.1 rfl (Nat.le_of_ble_eq_true rfl) dX4_turn_31 ⟨Nat.zero_le _, Nat.zero_le _⟩ hS (fun q h => by simp only [iv] at h ⊢; omega) (fun H locs hB hsz hq hS => ?_)
      have hF := hB
      have hF : SFP G H z (σ.1, σ.2.1, σ.2.2.1, (rmF σ).2.2.2.1, (rmF σ).2.2.2.2.1, (rmF σ).2.2.2.2.2.1, σ.2.2.2.2.2.2) := hF
      have hN3 : ST G H (z + 1) σ.1 := hF.now
      have hJ4 : GA G H ((z + 1) + 6 + 4 * t.toNat) (σ.1.2.2 t.toNat) := hN3.gauge (i := t.toNat) (by omega)
      refine lv_aload_n hx hb dX4_turn_34 rfl (lv_at hl 0 rfl) ?_
      refine lv_iload_n hx hb dX4_turn_35 rfl (lv_at hl 3 rfl) ?_
      refine z_putG hx hb hts iwX4_turn_0 hown hK hJ4 hS (by simp only [iv]; omega) 8 (by decide) flX4_turn_87 rfl rfl (ty := .boolean) rfl (zi_narB hbB) (zi_fitB hbB) dX4_turn_36 (fun H locs hJ4 hsz hq hS => ?_)
      have hJ4 : GA G H ((z + 1) + 6 + 4 * t.toNat) (upd ((σ.1.2.2 t.toNat).1) 8 xb, (σ.1.2.2 t.toNat).2.1, (σ.1.2.2 t.toNat).2.2.1, (σ.1.2.2 t.toNat).2.2.2) := hJ4
      have hN3 : ST G H (z + 1) (σ.1.1, σ.1.2.1, va_up σ.1.2.2 t.toNat (upd ((σ.1.2.2 t.toNat).1) 8 xb, (σ.1.2.2 t.toNat).2.1, (σ.1.2.2 t.toNat).2.2.1, (σ.1.2.2 t.toNat).2.2.2)) := hN3.setG (i := t.toNat) (by omega) hJ4 (fun q h1 h => hq q (by omega))
      have hF : SFP G H z ((σ.1.1, σ.1.2.1, va_up σ.1.2.2 t.toNat (upd ((σ.1.2.2 t.toNat).1) 8 xb, (σ.1.2.2 t.toNat).2.1, (σ.1.2.2 t.toNat).2.2.1, (σ.1.2.2 t.toNat).2.2.2)), σ.2.1, σ.2.2.1, ((rmF σ).2.2.2.1), ((rmF σ).2.2.2.2.1), ((rmF σ).2.2.2.2.2.1), σ.2.2.2.2.2.2) := hF.setNow hN3 (fun q h1 h => hq q (by omega))
      refine lv_aload_n hx hb dX4_turn_39 rfl (lv_at hl 1 rfl) ?_
      refine z_get hx hb hts iwX4_turn_4 hown hK hF.1 rfl 0 (by decide) flX4_turn_10 rfl (v := .ref (z + 1)) rfl dX4_turn_40 ?_
      refine z_cV (As := []) (rest := []) ⟨hx, hb, hml, hown, hts⟩ (kX2_stationsOn l G (z + 1) (σ.1.1, σ.1.2.1, va_up σ.1.2.2 t.toNat (upd ((σ.1.2.2 t.toNat).1) 8 xb, (σ.1.2.2 t.toNat).2.1, (σ.1.2.2 t.toNat).2.2.1, (σ.1.2.2 t.toNat).2.2.2))) (cwV 0 hts gX4_turn_X2_stationsOn rfl rfl rfl hyX2_stationsOn ⟨Nat.le_of_ble_eq_true rfl, Nat.le_of_ble_eq_true rfl⟩) hK hN3 hN3.1 rfl rfl hl.1 rfl (Nat.le_of_ble_eq_true rfl) dX4_turn_43 ⟨Nat.zero_le _, Nat.zero_le _⟩ (fun z7 e7 => ?_)
      have e7 : z7.toInt = onN (va_up σ.1.2.2 t.toNat (upd ((σ.1.2.2 t.toNat).1) 8 xb, (σ.1.2.2 t.toNat).2.1, (σ.1.2.2 t.toNat).2.2.1, (σ.1.2.2 t.toNat).2.2.2)) 3 := e7
      exact z_riw (v := z7) hx hb hr hlocks (show z7.toInt = a_turn σ t b xb from (by unfold a_turn; (repeat' split) <;> first | rfl | omega | contradiction | assumption)) (hF.to (by unfold s_turn; (repeat' split) <;> first | rfl | omega | contradiction)) hS dX4_turn_46
    · refine lv_bipush (v := (-5 : Int32)) hx hb dX4_turn_27 (by decide) ?_
      exact z_riw (v := (-5 : Int32)) hx hb hr hlocks (show (-5 : Int32).toInt = a_turn σ t b xb from (by unfold a_turn; (repeat' split) <;> first | rfl | omega | contradiction | assumption)) (hF.to (by unfold s_turn; (repeat' split) <;> first | rfl | omega | contradiction)) hS dX4_turn_29
  · refine lv_iconst (v := (-1 : Int32)) hx hb dX4_turn_7 (by decide) ?_
    exact z_riw (v := (-1 : Int32)) hx hb hr hlocks (show (-1 : Int32).toInt = a_turn σ t b xb from (by unfold a_turn; (repeat' split) <;> first | rfl | omega | contradiction | assumption)) (hF.to (by unfold s_turn; (repeat' split) <;> first | rfl | omega | contradiction)) hS dX4_turn_8

abbrev rmX4_clean : Room := { frames := 4, cells := 0, slots := 0, locals := 111 }
theorem iwX4_clean_0 : ∀ w ∈ wsX00, w ∈ wsX4_clean := fun _ h => List.mem_cons_of_mem _ (List.mem_append_left _ (List.mem_append_right _ h))
theorem iwX4_clean_2 : ∀ w ∈ wsX20, w ∈ wsX4_clean := fun _ h => List.mem_cons_of_mem _ (List.mem_append_left _ (List.mem_append_left _ (List.mem_append_right _ h)))
theorem iwX4_clean_4 : ∀ w ∈ wsX40, w ∈ wsX4_clean := fun _ h => List.mem_cons_of_mem _ (List.mem_append_left _ (List.mem_append_left _ (List.mem_append_left _ (List.mem_append_right _ h))))
theorem flX4_clean_10 : Cond.fieldLink RX4 10 "SiltedFloats" "now" "LSiltedFloats$State;" ∈ wsX4_clean := by decide +kernel
theorem flX4_clean_66 : Cond.fieldLink RX4 66 "SiltedFloats$State" "gauges" "[LSiltedFloats$Gauge;" ∈ wsX4_clean := by decide +kernel
theorem flX4_clean_95 : Cond.fieldLink RX4 95 "SiltedFloats$Gauge" "silt" "I" ∈ wsX4_clean := by decide +kernel
theorem hyX4_clean : yX4_clean.cls = RX4 ∧ yX4_clean.cls ≠ "java/lang/invoke/MethodHandle" ∧ yX4_clean.cls ≠ "java/lang/invoke/VarHandle" ∧ (parseMethodDescriptor yX4_clean.desc).map (fun d => d.parameters.length) = some 1 := by decide +kernel
set_option maxHeartbeats 4000000 in
set_option maxRecDepth 100000 in
theorem kX4_clean (l : Launch) (G : xG) (z : Nat) (σ : FD) (xt : Int32) (t : Int) (e_xt : xt.toInt = t) (hok : fdOk σ) : Met l yX4_clean wsX4_clean rmX4_clean (va_Pc [.ref z, .int xt] (zPre G (fun H => SFP G H z σ))) (zW (fun v => v.toInt = a_clean σ t) (fun H => SFP G H z (s_clean σ t)) (iv z 112)) 0 0 (iv z 112) := by
  refine z_ofW (cc := cX4_clean) (maxL := 4) (ret := some .int) (by decide +kernel) rfl (Nat.le_of_ble_eq_true rfl) ?_
  intro p e s m below meth c hx hb hml hr hts hown hlocks hK hP ls hl
  have hF := hP
  have hown : s.vm.findClass RX4 = some m.cls := hown
  have hl : lv_has ls 4 [(0, .ref z), (1, .int xt)] := hl
  have hS : va_S (iv z 112) s.heap s.heap [] := va_S.rf
  have hok1 := hok.1
  have hokh := hok1.1
  refine lv_iload_n hx hb dX4_clean_0 rfl (lv_at hl 1 rfl) ?_
  refine z_cS (As := [.int xt]) (rest := []) ⟨hx, hb, hml, hown, hts⟩ (kX4_isStation l G xt t e_xt) (va_cwS 1 hts gX4_clean_X4_isStation rfl rfl rfl hyX4_isStation ⟨Nat.le_of_ble_eq_true rfl, Nat.le_of_ble_eq_true rfl⟩) hK trivial rfl hl.1 rfl (Nat.le_of_ble_eq_true rfl) dX4_clean_1 ⟨Nat.zero_le _, Nat.zero_le _⟩ (fun z1 e1 => ?_)
  have e1 : isB z1 (0 ≤ t ∧ t < 3) := e1
  refine z_ifb_ne (tgt := 9) hx hb e1 dX4_clean_4 (by decide) (fun c_2 => ?_) (fun c_2 => ?_)
  · refine lv_aload_n hx hb dX4_clean_9 rfl (lv_at hl 0 rfl) ?_
    have hN3 : ST G s.heap (z + 1) σ.1 := hF.now
    refine z_get hx hb hts iwX4_clean_4 hown hK hF.1 rfl 0 (by decide) flX4_clean_10 rfl (v := .ref (z + 1)) rfl dX4_clean_10 ?_
    refine z_get hx hb hts iwX4_clean_2 hown hK hN3.1 rfl 2 (by decide) flX4_clean_66 rfl (v := .ref ((z + 1) + 5)) rfl dX4_clean_13 ?_
    refine lv_iload_n hx hb dX4_clean_16 rfl (lv_at hl 1 rfl) ?_
    have hJ4 : GA G s.heap ((z + 1) + 6 + 4 * t.toNat) (σ.1.2.2 t.toNat) := hN3.gauge (i := t.toNat) (by omega)
    refine z_aald (b := (z + 1) + 6 + 4 * t.toNat) hx hb hK 3 hN3.2.2.1 rfl e_xt (by omega) rfl dX4_clean_17 ?_
    refine lv_astore_n hx hb dX4_clean_18 rfl hl (by decide) rfl (fun ls hl => ?_)
    have hl : lv_has ls 4 [(2, .ref ((z + 1) + 6 + 4 * t.toNat)), (0, .ref z), (1, .int xt)] := hl
    refine lv_aload_n hx hb dX4_clean_19 rfl (lv_at hl 0 rfl) ?_
    refine z_get hx hb hts iwX4_clean_0 hown hK hJ4.1 rfl 4 (by decide) flX4_clean_95 rfl (v := .int (((σ.1.2.2 t.toNat).1) 4)) rfl dX4_clean_20 ?_
    refine lv_istore_n hx hb dX4_clean_23 rfl hl (by decide) rfl (fun ls hl => ?_)
    have hl : lv_has ls 4 [(3, .int (((σ.1.2.2 t.toNat).1) 4)), (2, .ref ((z + 1) + 6 + 4 * t.toNat)), (0, .ref z), (1, .int xt)] := hl
    refine lv_iload_n hx hb dX4_clean_24 rfl (lv_at hl 0 rfl) ?_
    refine z_if_ne (tgt := 31) hx hb rfl dX4_clean_25 (by decide) (fun c_5 => ?_) (fun c_5 => ?_)
    · refine lv_aload_n hx hb dX4_clean_31 rfl (lv_at hl 2 rfl) ?_
      refine z_cVv (As := []) (rest := []) ⟨hx, hb, hml, hown, hts⟩ (kX4_remember l G z σ (by first | assumption | omega)) (cwV 0 hts gX4_clean_X4_remember rfl rfl rfl hyX4_remember ⟨Nat.le_of_ble_eq_true rfl, Nat.le_of_ble_eq_true rfl⟩) hK hF hF.1 rfl rfl hl.1 rfl (Nat.le_of_ble_eq_true rfl) dX4_clean_32 ⟨Nat.zero_le _, Nat.zero_le _⟩ hS (fun q h => by simp only [iv] at h ⊢; omega) (fun H locs hB hsz hq hS => ?_)
      have hF := hB
      have hF : SFP G H z (σ.1, σ.2.1, σ.2.2.1, (rmF σ).2.2.2.1, (rmF σ).2.2.2.2.1, (rmF σ).2.2.2.2.2.1, σ.2.2.2.2.2.2) := hF
      have hN3 : ST G H (z + 1) σ.1 := hF.now
      have hJ4 : GA G H ((z + 1) + 6 + 4 * t.toNat) (σ.1.2.2 t.toNat) := hN3.gauge (i := t.toNat) (by omega)
      refine lv_aload_n hx hb dX4_clean_35 rfl (lv_at hl 1 rfl) ?_
      refine lv_iconst (v := (0 : Int32)) hx hb dX4_clean_36 (by decide) ?_
      refine z_putG hx hb hts iwX4_clean_0 hown hK hJ4 hS (by simp only [iv]; omega) 4 (by decide) flX4_clean_95 rfl rfl (ty := .int) rfl rfl rfl dX4_clean_37 (fun H locs hJ4 hsz hq hS => ?_)
      have hJ4 : GA G H ((z + 1) + 6 + 4 * t.toNat) (upd ((σ.1.2.2 t.toNat).1) 4 (0 : Int32), (σ.1.2.2 t.toNat).2.1, (σ.1.2.2 t.toNat).2.2.1, (σ.1.2.2 t.toNat).2.2.2) := hJ4
      have hN3 : ST G H (z + 1) (σ.1.1, σ.1.2.1, va_up σ.1.2.2 t.toNat (upd ((σ.1.2.2 t.toNat).1) 4 (0 : Int32), (σ.1.2.2 t.toNat).2.1, (σ.1.2.2 t.toNat).2.2.1, (σ.1.2.2 t.toNat).2.2.2)) := hN3.setG (i := t.toNat) (by omega) hJ4 (fun q h1 h => hq q (by omega))
      have hF : SFP G H z ((σ.1.1, σ.1.2.1, va_up σ.1.2.2 t.toNat (upd ((σ.1.2.2 t.toNat).1) 4 (0 : Int32), (σ.1.2.2 t.toNat).2.1, (σ.1.2.2 t.toNat).2.2.1, (σ.1.2.2 t.toNat).2.2.2)), σ.2.1, σ.2.2.1, ((rmF σ).2.2.2.1), ((rmF σ).2.2.2.2.1), ((rmF σ).2.2.2.2.2.1), σ.2.2.2.2.2.2) := hF.setNow hN3 (fun q h1 h => hq q (by omega))
      refine lv_iload_n hx hb dX4_clean_40 rfl (lv_at hl 0 rfl) ?_
      exact z_riw (v := ((σ.1.2.2 t.toNat).1) 4) hx hb hr hlocks (show (((σ.1.2.2 t.toNat).1) 4).toInt = a_clean σ t from (by unfold a_clean; (repeat' split) <;> first | rfl | omega | contradiction | assumption)) (hF.to (by unfold s_clean; (repeat' split) <;> first | rfl | omega | contradiction)) hS dX4_clean_41
    · refine lv_bipush (v := (-5 : Int32)) hx hb dX4_clean_28 (by decide) ?_
      exact z_riw (v := (-5 : Int32)) hx hb hr hlocks (show (-5 : Int32).toInt = a_clean σ t from (by unfold a_clean; (repeat' split) <;> first | rfl | omega | contradiction | assumption)) (hF.to (by unfold s_clean; (repeat' split) <;> first | rfl | omega | contradiction)) hS dX4_clean_30
  · refine lv_iconst (v := (-1 : Int32)) hx hb dX4_clean_7 (by decide) ?_
    exact z_riw (v := (-1 : Int32)) hx hb hr hlocks (show (-1 : Int32).toInt = a_clean σ t from (by unfold a_clean; (repeat' split) <;> first | rfl | omega | contradiction | assumption)) (hF.to (by unfold s_clean; (repeat' split) <;> first | rfl | omega | contradiction)) hS dX4_clean_8

abbrev rmX4_level : Room := { frames := 4, cells := 0, slots := 0, locals := 111 }
theorem iwX4_level_0 : ∀ w ∈ wsX00, w ∈ wsX4_level := fun _ h => List.mem_cons_of_mem _ (List.mem_append_left _ (List.mem_append_right _ h))
theorem iwX4_level_2 : ∀ w ∈ wsX20, w ∈ wsX4_level := fun _ h => List.mem_cons_of_mem _ (List.mem_append_left _ (List.mem_append_left _ (List.mem_append_right _ h)))
theorem iwX4_level_4 : ∀ w ∈ wsX40, w ∈ wsX4_level := fun _ h => List.mem_cons_of_mem _ (List.mem_append_left _ (List.mem_append_left _ (List.mem_append_left _ (List.mem_append_right _ h))))
theorem flX4_level_10 : Cond.fieldLink RX4 10 "SiltedFloats" "now" "LSiltedFloats$State;" ∈ wsX4_level := by decide +kernel
theorem flX4_level_105 : Cond.fieldLink RX4 105 "SiltedFloats$Gauge" "sunk" "I" ∈ wsX4_level := by decide +kernel
theorem flX4_level_34 : Cond.fieldLink RX4 34 "SiltedFloats$State" "hour" "I" ∈ wsX4_level := by decide +kernel
theorem flX4_level_66 : Cond.fieldLink RX4 66 "SiltedFloats$State" "gauges" "[LSiltedFloats$Gauge;" ∈ wsX4_level := by decide +kernel
theorem hyX4_level : yX4_level.cls = RX4 ∧ yX4_level.cls ≠ "java/lang/invoke/MethodHandle" ∧ yX4_level.cls ≠ "java/lang/invoke/VarHandle" ∧ (parseMethodDescriptor yX4_level.desc).map (fun d => d.parameters.length) = some 1 := by decide +kernel
set_option maxHeartbeats 4000000 in
set_option maxRecDepth 100000 in
theorem kX4_level (l : Launch) (G : xG) (z : Nat) (σ : FD) (xt : Int32) (t : Int) (e_xt : xt.toInt = t) (hok : fdOk σ) : Met l yX4_level wsX4_level rmX4_level (va_Pc [.ref z, .int xt] (zPre G (fun H => SFP G H z σ))) (zW (fun v => v.toInt = a_level σ t) (fun H => SFP G H z (s_level σ t)) (iv z 112)) 0 0 (iv z 112) := by
  refine z_ofW (cc := cX4_level) (maxL := 3) (ret := some .int) (by decide +kernel) rfl (Nat.le_of_ble_eq_true rfl) ?_
  intro p e s m below meth c hx hb hml hr hts hown hlocks hK hP ls hl
  have hF := hP
  have hown : s.vm.findClass RX4 = some m.cls := hown
  have hl : lv_has ls 3 [(0, .ref z), (1, .int xt)] := hl
  have hS : va_S (iv z 112) s.heap s.heap [] := va_S.rf
  have hok1 := hok.1
  have hokh := hok1.1
  refine lv_iload_n hx hb dX4_level_0 rfl (lv_at hl 1 rfl) ?_
  refine z_cS (As := [.int xt]) (rest := []) ⟨hx, hb, hml, hown, hts⟩ (kX4_isStation l G xt t e_xt) (va_cwS 1 hts gX4_level_X4_isStation rfl rfl rfl hyX4_isStation ⟨Nat.le_of_ble_eq_true rfl, Nat.le_of_ble_eq_true rfl⟩) hK trivial rfl hl.1 rfl (Nat.le_of_ble_eq_true rfl) dX4_level_1 ⟨Nat.zero_le _, Nat.zero_le _⟩ (fun z1 e1 => ?_)
  have e1 : isB z1 (0 ≤ t ∧ t < 3) := e1
  refine z_ifb_ne (tgt := 9) hx hb e1 dX4_level_4 (by decide) (fun c_2 => ?_) (fun c_2 => ?_)
  · have hgo := (hok1.2.2 t.toNat (by omega)).2.2
    refine lv_aload_n hx hb dX4_level_9 rfl (lv_at hl 0 rfl) ?_
    have hN3 : ST G s.heap (z + 1) σ.1 := hF.now
    refine z_get hx hb hts iwX4_level_4 hown hK hF.1 rfl 0 (by decide) flX4_level_10 rfl (v := .ref (z + 1)) rfl dX4_level_10 ?_
    refine z_get hx hb hts iwX4_level_2 hown hK hN3.1 rfl 2 (by decide) flX4_level_66 rfl (v := .ref ((z + 1) + 5)) rfl dX4_level_13 ?_
    refine lv_iload_n hx hb dX4_level_16 rfl (lv_at hl 1 rfl) ?_
    have hJ4 : GA G s.heap ((z + 1) + 6 + 4 * t.toNat) (σ.1.2.2 t.toNat) := hN3.gauge (i := t.toNat) (by omega)
    refine z_aald (b := (z + 1) + 6 + 4 * t.toNat) hx hb hK 3 hN3.2.2.1 rfl e_xt (by omega) rfl dX4_level_17 ?_
    refine lv_astore_n hx hb dX4_level_18 rfl hl (by decide) rfl (fun ls hl => ?_)
    have hl : lv_has ls 3 [(2, .ref ((z + 1) + 6 + 4 * t.toNat)), (0, .ref z), (1, .int xt)] := hl
    refine lv_aload_n hx hb dX4_level_19 rfl (lv_at hl 0 rfl) ?_
    refine lv_aload_n hx hb dX4_level_20 rfl (lv_at hl 1 rfl) ?_
    refine z_get hx hb hts iwX4_level_4 hown hK hF.1 rfl 0 (by decide) flX4_level_10 rfl (v := .ref (z + 1)) rfl dX4_level_21 ?_
    refine z_get hx hb hts iwX4_level_2 hown hK hN3.1 rfl 0 (by decide) flX4_level_34 rfl (v := .int σ.1.1) rfl dX4_level_24 ?_
    refine z_cV (As := [.int σ.1.1]) (rest := []) ⟨hx, hb, hml, hown, hts⟩ (kX0_isNotedAt l G ((z + 1) + 6 + 4 * t.toNat) (σ.1.2.2 t.toNat) σ.1.1 ((σ.1.1).toInt) rfl) (cwV 1 hts gX4_level_X0_isNotedAt rfl rfl rfl hyX0_isNotedAt ⟨Nat.le_of_ble_eq_true rfl, Nat.le_of_ble_eq_true rfl⟩) hK hJ4 hJ4.1 rfl rfl hl.1 rfl (Nat.le_of_ble_eq_true rfl) dX4_level_27 ⟨Nat.zero_le _, Nat.zero_le _⟩ (fun z5 e5 => ?_)
    have e5 : isB z5 (((σ.1.2.2 t.toNat).1 11).toInt = ((σ.1.1).toInt)) := e5
    refine z_ifb_eq (tgt := 36) hx hb e5 dX4_level_30 (by decide) (fun c_6 => ?_) (fun c_6 => ?_)
    · refine lv_aload_n hx hb dX4_level_36 rfl (lv_at hl 1 rfl) ?_
      refine z_cVv (As := []) (rest := []) ⟨hx, hb, hml, hown, hts⟩ (kX4_remember l G z σ (by first | assumption | omega)) (cwV 0 hts gX4_level_X4_remember rfl rfl rfl hyX4_remember ⟨Nat.le_of_ble_eq_true rfl, Nat.le_of_ble_eq_true rfl⟩) hK hF hF.1 rfl rfl hl.1 rfl (Nat.le_of_ble_eq_true rfl) dX4_level_37 ⟨Nat.zero_le _, Nat.zero_le _⟩ hS (fun q h => by simp only [iv] at h ⊢; omega) (fun H locs hB hsz hq hS => ?_)
      have hF := hB
      have hF : SFP G H z (σ.1, σ.2.1, σ.2.2.1, (rmF σ).2.2.2.1, (rmF σ).2.2.2.2.1, (rmF σ).2.2.2.2.2.1, σ.2.2.2.2.2.2) := hF
      have hN3 : ST G H (z + 1) σ.1 := hF.now
      have hJ4 : GA G H ((z + 1) + 6 + 4 * t.toNat) (σ.1.2.2 t.toNat) := hN3.gauge (i := t.toNat) (by omega)
      refine lv_aload_n hx hb dX4_level_40 rfl (lv_at hl 0 rfl) ?_
      refine lv_aload_n hx hb dX4_level_41 rfl (lv_at hl 1 rfl) ?_
      refine z_get hx hb hts iwX4_level_4 hown hK hF.1 rfl 0 (by decide) flX4_level_10 rfl (v := .ref (z + 1)) rfl dX4_level_42 ?_
      refine z_get hx hb hts iwX4_level_2 hown hK hN3.1 rfl 0 (by decide) flX4_level_34 rfl (v := .int σ.1.1) rfl dX4_level_45 ?_
      refine z_cVv (As := [.int σ.1.1]) (rest := []) ⟨hx, hb, hml, hown, hts⟩ (kX0_noteAt l G ((z + 1) + 6 + 4 * t.toNat) (σ.1.2.2 t.toNat) σ.1.1 ((σ.1.1).toInt) rfl (by first | assumption | omega) (by first | assumption | omega) (by first | assumption | omega) (by first | assumption | omega) (by first | assumption | omega)) (cwV 1 hts gX4_level_X0_noteAt rfl rfl rfl hyX0_noteAt ⟨Nat.le_of_ble_eq_true rfl, Nat.le_of_ble_eq_true rfl⟩) hK hJ4 hJ4.1 rfl rfl hl.1 rfl (Nat.le_of_ble_eq_true rfl) dX4_level_48 ⟨Nat.zero_le _, Nat.zero_le _⟩ hS (fun q h => by simp only [iv] at h ⊢; omega) (fun H locs hB hsz hq hS => ?_)
      have hJ4 := hB
      have hJ4 : GA G H ((z + 1) + 6 + 4 * t.toNat) (ntG (σ.1.2.2 t.toNat) σ.1.1) := hJ4
      have hN3 : ST G H (z + 1) (σ.1.1, σ.1.2.1, va_up σ.1.2.2 t.toNat (ntG (σ.1.2.2 t.toNat) σ.1.1)) := hN3.setG (i := t.toNat) (by omega) hJ4 (fun q h1 h => hq q h1 (by simp only [iv]; omega))
      have hF : SFP G H z ((σ.1.1, σ.1.2.1, va_up σ.1.2.2 t.toNat (ntG (σ.1.2.2 t.toNat) σ.1.1)), σ.2.1, σ.2.2.1, ((rmF σ).2.2.2.1), ((rmF σ).2.2.2.2.1), ((rmF σ).2.2.2.2.2.1), σ.2.2.2.2.2.2) := hF.setNow hN3 (fun q h1 h => hq q h1 (by simp only [iv]; omega))
      refine lv_aload_n hx hb dX4_level_51 rfl (lv_at hl 0 rfl) ?_
      refine z_get hx hb hts iwX4_level_0 hown hK hJ4.1 rfl 7 (by decide) flX4_level_105 rfl (v := .int (((ntG (σ.1.2.2 t.toNat) σ.1.1).1) 7)) rfl dX4_level_52 ?_
      exact z_riw (v := ((ntG (σ.1.2.2 t.toNat) σ.1.1).1) 7) hx hb hr hlocks (show (((ntG (σ.1.2.2 t.toNat) σ.1.1).1) 7).toInt = a_level σ t from (by unfold a_level; (repeat' split) <;> first | rfl | omega | contradiction | exact congrArg Int32.toInt (ntG_7 _ _))) (hF.to (by unfold s_level; (repeat' split) <;> first | rfl | omega | contradiction)) hS dX4_level_55
    · refine lv_bipush (v := (-5 : Int32)) hx hb dX4_level_33 (by decide) ?_
      exact z_riw (v := (-5 : Int32)) hx hb hr hlocks (show (-5 : Int32).toInt = a_level σ t from (by unfold a_level; (repeat' split) <;> first | rfl | omega | contradiction | exact congrArg Int32.toInt (ntG_7 _ _))) (hF.to (by unfold s_level; (repeat' split) <;> first | rfl | omega | contradiction)) hS dX4_level_35
  · refine lv_iconst (v := (-1 : Int32)) hx hb dX4_level_7 (by decide) ?_
    exact z_riw (v := (-1 : Int32)) hx hb hr hlocks (show (-1 : Int32).toInt = a_level σ t from (by unfold a_level; (repeat' split) <;> first | rfl | omega | contradiction | exact congrArg Int32.toInt (ntG_7 _ _))) (hF.to (by unfold s_level; (repeat' split) <;> first | rfl | omega | contradiction)) hS dX4_level_8

abbrev rmX4_pass : Room := { frames := 5, cells := 0, slots := 0, locals := 113 }
theorem iwX4_pass_2 : ∀ w ∈ wsX20, w ∈ wsX4_pass := fun _ h => List.mem_cons_of_mem _ (List.mem_append_left _ (List.mem_append_left _ (List.mem_append_right _ h)))
theorem iwX4_pass_4 : ∀ w ∈ wsX40, w ∈ wsX4_pass := fun _ h => List.mem_cons_of_mem _ (List.mem_append_left _ (List.mem_append_left _ (List.mem_append_left _ (List.mem_append_right _ h))))
theorem flX4_pass_10 : Cond.fieldLink RX4 10 "SiltedFloats" "now" "LSiltedFloats$State;" ∈ wsX4_pass := by decide +kernel
theorem flX4_pass_34 : Cond.fieldLink RX4 34 "SiltedFloats$State" "hour" "I" ∈ wsX4_pass := by decide +kernel
theorem hyX4_pass : yX4_pass.cls = RX4 ∧ yX4_pass.cls ≠ "java/lang/invoke/MethodHandle" ∧ yX4_pass.cls ≠ "java/lang/invoke/VarHandle" ∧ (parseMethodDescriptor yX4_pass.desc).map (fun d => d.parameters.length) = some 1 := by decide +kernel
set_option maxHeartbeats 4000000 in
set_option maxRecDepth 100000 in
theorem kX4_pass (l : Launch) (G : xG) (z : Nat) (σ : FD) (xh : Int32) (h : Int) (e_xh : xh.toInt = h) (hok : fdOk σ) : Met l yX4_pass wsX4_pass rmX4_pass (va_Pc [.ref z, .int xh] (zPre G (fun H => SFP G H z σ))) (zW (fun v => v.toInt = a_pass σ h) (fun H => SFP G H z (s_pass σ h)) (iv z 112)) 0 0 (iv z 112) := by
  refine z_ofW (cc := cX4_pass) (maxL := 2) (ret := some .int) (by decide +kernel) rfl (Nat.le_of_ble_eq_true rfl) ?_
  intro p e s m below meth c hx hb hml hr hts hown hlocks hK hP ls hl
  have hF := hP
  have hown : s.vm.findClass RX4 = some m.cls := hown
  have hl : lv_has ls 2 [(0, .ref z), (1, .int xh)] := hl
  have hS : va_S (iv z 112) s.heap s.heap [] := va_S.rf
  have hok1 := hok.1
  have hokh := hok1.1
  refine lv_iload_n hx hb dX4_pass_0 rfl (lv_at hl 1 rfl) ?_
  refine lv_iconst (v := (1 : Int32)) hx hb dX4_pass_1 (by decide) ?_
  refine lv_bipush (v := (120 : Int32)) hx hb dX4_pass_2 (by decide) ?_
  refine z_cS (As := [.int xh, .int (1 : Int32), .int (120 : Int32)]) (rest := []) ⟨hx, hb, hml, hown, hts⟩ (kX4_isWithin l G xh h e_xh (1 : Int32) (1 : Int) kI_1 (120 : Int32) (120 : Int) kI_120) (va_cwS 3 hts gX4_pass_X4_isWithin rfl rfl rfl hyX4_isWithin ⟨Nat.le_of_ble_eq_true rfl, Nat.le_of_ble_eq_true rfl⟩) hK trivial rfl hl.1 rfl (Nat.le_of_ble_eq_true rfl) dX4_pass_4 ⟨Nat.zero_le _, Nat.zero_le _⟩ (fun z1 e1 => ?_)
  have e1 : isB z1 ((1 : Int) ≤ h ∧ h ≤ (120 : Int)) := e1
  refine z_ifb_ne (tgt := 13) hx hb e1 dX4_pass_7 (by decide) (fun c_2 => ?_) (fun c_2 => ?_)
  · refine lv_aload_n hx hb dX4_pass_13 rfl (lv_at hl 0 rfl) ?_
    have hN3 : ST G s.heap (z + 1) σ.1 := hF.now
    refine z_get hx hb hts iwX4_pass_4 hown hK hF.1 rfl 0 (by decide) flX4_pass_10 rfl (v := .ref (z + 1)) rfl dX4_pass_14 ?_
    refine z_get hx hb hts iwX4_pass_2 hown hK hN3.1 rfl 0 (by decide) flX4_pass_34 rfl (v := .int σ.1.1) rfl dX4_pass_17 ?_
    refine lv_iload_n hx hb dX4_pass_20 rfl (lv_at hl 1 rfl) ?_
    refine z_iadd hx hb rfl e_xh dX4_pass_21 (by omega) (fun z4 e4 => ?_)
    refine lv_bipush (v := (120 : Int32)) hx hb dX4_pass_22 (by decide) ?_
    refine z_icmp_le (tgt := 30) hx hb e4 kI_120 dX4_pass_24 (by decide) (fun c_5 => ?_) (fun c_5 => ?_)
    · have hps := (passN_ok hok1 h.toNat (by omega)).2
      refine lv_aload_n hx hb dX4_pass_30 rfl (lv_at hl 0 rfl) ?_
      refine z_cVv (As := []) (rest := []) ⟨hx, hb, hml, hown, hts⟩ (kX4_remember l G z σ (by first | assumption | omega)) (cwV 0 hts gX4_pass_X4_remember rfl rfl rfl hyX4_remember ⟨Nat.le_of_ble_eq_true rfl, Nat.le_of_ble_eq_true rfl⟩) hK hF hF.1 rfl rfl hl.1 rfl (Nat.le_of_ble_eq_true rfl) dX4_pass_31 ⟨Nat.zero_le _, Nat.zero_le _⟩ hS (fun q h => by simp only [iv] at h ⊢; omega) (fun H locs hB hsz hq hS => ?_)
      have hF := hB
      have hF : SFP G H z (σ.1, σ.2.1, σ.2.2.1, (rmF σ).2.2.2.1, (rmF σ).2.2.2.2.1, (rmF σ).2.2.2.2.2.1, σ.2.2.2.2.2.2) := hF
      have hN3 : ST G H (z + 1) σ.1 := hF.now
      refine lv_aload_n hx hb dX4_pass_34 rfl (lv_at hl 0 rfl) ?_
      refine z_get hx hb hts iwX4_pass_4 hown hK hF.1 rfl 0 (by decide) flX4_pass_10 rfl (v := .ref (z + 1)) rfl dX4_pass_35 ?_
      refine lv_iload_n hx hb dX4_pass_38 rfl (lv_at hl 1 rfl) ?_
      refine z_cVv (As := [.int xh]) (rest := []) ⟨hx, hb, hml, hown, hts⟩ (kX2_passHours l G (z + 1) σ.1 xh h e_xh hok1 (by first | assumption | omega)) (cwV 1 hts gX4_pass_X2_passHours rfl rfl rfl hyX2_passHours ⟨Nat.le_of_ble_eq_true rfl, Nat.le_of_ble_eq_true rfl⟩) hK hN3 hN3.1 rfl rfl hl.1 rfl (Nat.le_of_ble_eq_true rfl) dX4_pass_39 ⟨Nat.zero_le _, Nat.zero_le _⟩ hS (fun q h => by simp only [iv] at h ⊢; omega) (fun H locs hB hsz hq hS => ?_)
      have hN3 := hB
      have hN3 : ST G H (z + 1) (passN σ.1 h.toNat) := hN3
      have hF : SFP G H z (passN σ.1 h.toNat, σ.2.1, σ.2.2.1, ((rmF σ).2.2.2.1), ((rmF σ).2.2.2.2.1), ((rmF σ).2.2.2.2.2.1), σ.2.2.2.2.2.2) := hF.setNow hN3 (fun q h1 h => hq q h1 (by simp only [iv]; omega))
      refine lv_aload_n hx hb dX4_pass_42 rfl (lv_at hl 0 rfl) ?_
      refine z_get hx hb hts iwX4_pass_4 hown hK hF.1 rfl 0 (by decide) flX4_pass_10 rfl (v := .ref (z + 1)) rfl dX4_pass_43 ?_
      refine z_get hx hb hts iwX4_pass_2 hown hK hN3.1 rfl 0 (by decide) flX4_pass_34 rfl (v := .int ((passN σ.1 h.toNat).1)) rfl dX4_pass_46 ?_
      exact z_riw (v := (passN σ.1 h.toNat).1) hx hb hr hlocks (show ((passN σ.1 h.toNat).1).toInt = a_pass σ h from (by unfold a_pass; (repeat' split) <;> first | rfl | omega | contradiction | assumption)) (hF.to (by unfold s_pass; (repeat' split) <;> first | rfl | omega | contradiction)) hS dX4_pass_49
    · refine lv_bipush (v := (-3 : Int32)) hx hb dX4_pass_27 (by decide) ?_
      exact z_riw (v := (-3 : Int32)) hx hb hr hlocks (show (-3 : Int32).toInt = a_pass σ h from (by unfold a_pass; (repeat' split) <;> first | rfl | omega | contradiction | assumption)) (hF.to (by unfold s_pass; (repeat' split) <;> first | rfl | omega | contradiction)) hS dX4_pass_29
  · refine lv_bipush (v := (-2 : Int32)) hx hb dX4_pass_10 (by decide) ?_
    exact z_riw (v := (-2 : Int32)) hx hb hr hlocks (show (-2 : Int32).toInt = a_pass σ h from (by unfold a_pass; (repeat' split) <;> first | rfl | omega | contradiction | assumption)) (hF.to (by unfold s_pass; (repeat' split) <;> first | rfl | omega | contradiction)) hS dX4_pass_12
