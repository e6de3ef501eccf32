abbrev rmX5_note : Room := { frames := 1, cells := 0, slots := 0, locals := 21 }
theorem iwX5_note_5 : ∀ w ∈ wsX50, w ∈ wsX5_note := fun _ h => List.mem_cons_of_mem _ (List.mem_append_right _ h)
theorem flX5_note_7 : Cond.fieldLink RX5 7 "SiltedFloatsModel" "s" "[I" ∈ wsX5_note := by decide +kernel
theorem hyX5_note : yX5_note.cls = RX5 ∧ yX5_note.cls ≠ "java/lang/invoke/MethodHandle" ∧ yX5_note.cls ≠ "java/lang/invoke/VarHandle" ∧ (parseMethodDescriptor yX5_note.desc).map (fun d => d.parameters.length) = some 1 := by decide +kernel
set_option maxHeartbeats 1000000 in
set_option maxRecDepth 100000 in
theorem kX5_note (l : Launch) (G : xG) (o : Nat) (μ : MD) (x : Int32) (t : Int) (e_x : x.toInt = t) (τ : SD) (hR : Rs τ μ.2.1) (hok : stOk τ) (ht : 0 ≤ t ∧ t < 3) : Met l yX5_note wsX5_note rmX5_note (va_Pc [.ref o, .int x] (zPre G (fun H => MO G H o μ))) (zV (fun H => ∃ n9 : MD, MO G H o n9 ∧ (Rs (τ.1, τ.2.1, va_up τ.2.2 t.toNat (ntG (τ.2.2 t.toNat) τ.1)) n9.2.1 ∧ Mf μ n9)) (iv o 5)) 0 0 (iv o 5) := by
  refine z_ofW (cc := cX5_note) (maxL := 2) (ret := none) (by decide +kernel) rfl (Nat.le_of_ble_eq_true rfl) ?_
  intro p e s m below meth c hx hb hml hr hts hown hlocks hK hP ls hl
  have hM := hP
  have hown : s.vm.findClass RX5 = some m.cls := hown
  have hl : lv_has ls 2 [(0, .ref o), (1, .int x)] := hl
  have hS : va_S (iv o 5) s.heap s.heap [] := va_S.rf
  have hn0 := hR.1
  have hok1 := hok.1
  refine lv_aload_n hx hb dX5_note_0 rfl (lv_at hl 0 rfl) ?_
  refine z_get hx hb hts iwX5_note_5 hown hK hM.1 rfl 0 (by decide) flX5_note_7 rfl (v := .ref (o + 1)) rfl dX5_note_1 ?_
  refine lv_iload_n hx hb dX5_note_4 rfl (lv_at hl 1 rfl) ?_
  refine lv_sipush (v := (610 : Int32)) hx hb dX5_note_5 (by decide) ?_
  refine lv_aload_n hx hb dX5_note_8 rfl (lv_at hl 0 rfl) ?_
  refine z_get hx hb hts iwX5_note_5 hown hK hM.1 rfl 0 (by decide) flX5_note_7 rfl (v := .ref (o + 1)) rfl dX5_note_9 ?_
  refine lv_iconst (v := (0 : Int32)) hx hb dX5_note_12 (by decide) ?_
  refine z_iald (f := μ.2.1) hx hb hK 0 hM.2.1 rfl kI_0 (by omega) dX5_note_13 ?_
  have hcl1 : (μ.2.1 (0 : Int).toNat).toInt = τ.1.toInt := hn0
  refine z_iadd hx hb kI_610 hcl1 dX5_note_14 (by omega) (fun z2 e2 => ?_)
  refine z_cS (As := [.int x, .int z2]) (rest := [.ref (o + 1)]) ⟨hx, hb, hml, hown, hts⟩ (kX5_of l G x t e_x z2 ((610 : Int) + τ.1.toInt) e2 (by first | assumption | omega)) (va_cwS 2 hts gX5_note_X5_of rfl rfl rfl hyX5_of ⟨Nat.le_of_ble_eq_true rfl, Nat.le_of_ble_eq_true rfl⟩) hK trivial rfl hl.1 rfl (Nat.le_of_ble_eq_true rfl) dX5_note_15 ⟨Nat.zero_le _, Nat.zero_le _⟩ (fun z3 e3 => ?_)
  have e3 : z3.toInt = 10 + 731 * t + ((610 : Int) + τ.1.toInt) := e3
  refine lv_iconst (v := (1 : Int32)) hx hb dX5_note_18 (by decide) ?_
  refine z_iastMs hx hb hK hM hS (by simp only [iv]; omega) e3 (by omega) dX5_note_19 (fun H locs hM hsz hq hS => ?_)
  have hM : MO G H o (μ.1, upd μ.2.1 (10 + 731 * t + ((610 : Int) + τ.1.toInt)).toNat (1 : Int32), μ.2.2.1, μ.2.2.2.1, μ.2.2.2.2) := hM
  refine lv_aload_n hx hb dX5_note_20 rfl (lv_at hl 0 rfl) ?_
  refine z_get hx hb hts iwX5_note_5 hown hK hM.1 rfl 0 (by decide) flX5_note_7 rfl (v := .ref (o + 1)) rfl dX5_note_21 ?_
  refine lv_iload_n hx hb dX5_note_24 rfl (lv_at hl 1 rfl) ?_
  refine lv_sipush (v := (489 : Int32)) hx hb dX5_note_25 (by decide) ?_
  refine lv_aload_n hx hb dX5_note_28 rfl (lv_at hl 0 rfl) ?_
  refine z_get hx hb hts iwX5_note_5 hown hK hM.1 rfl 0 (by decide) flX5_note_7 rfl (v := .ref (o + 1)) rfl dX5_note_29 ?_
  refine lv_iconst (v := (0 : Int32)) hx hb dX5_note_32 (by decide) ?_
  refine z_iald (f := upd μ.2.1 (10 + 731 * t + ((610 : Int) + τ.1.toInt)).toNat (1 : Int32)) hx hb hK 0 hM.2.1 rfl kI_0 (by omega) dX5_note_33 ?_
  have hcl4 : ((upd μ.2.1 (10 + 731 * t + ((610 : Int) + τ.1.toInt)).toNat (1 : Int32)) (0 : Int).toNat).toInt = τ.1.toInt := (by rw [upd_ne (by omega)]; exact hn0)
  refine z_iadd hx hb kI_489 hcl4 dX5_note_34 (by omega) (fun z5 e5 => ?_)
  refine z_cS (As := [.int x, .int z5]) (rest := [.ref (o + 1)]) ⟨hx, hb, hml, hown, hts⟩ (kX5_of l G x t e_x z5 ((489 : Int) + τ.1.toInt) e5 (by first | assumption | omega)) (va_cwS 2 hts gX5_note_X5_of rfl rfl rfl hyX5_of ⟨Nat.le_of_ble_eq_true rfl, Nat.le_of_ble_eq_true rfl⟩) hK trivial rfl hl.1 rfl (Nat.le_of_ble_eq_true rfl) dX5_note_35 ⟨Nat.zero_le _, Nat.zero_le _⟩ (fun z6 e6 => ?_)
  have e6 : z6.toInt = 10 + 731 * t + ((489 : Int) + τ.1.toInt) := e6
  refine lv_aload_n hx hb dX5_note_38 rfl (lv_at hl 0 rfl) ?_
  refine z_get hx hb hts iwX5_note_5 hown hK hM.1 rfl 0 (by decide) flX5_note_7 rfl (v := .ref (o + 1)) rfl dX5_note_39 ?_
  refine lv_iload_n hx hb dX5_note_42 rfl (lv_at hl 1 rfl) ?_
  refine lv_bipush (v := (7 : Int32)) hx hb dX5_note_43 (by decide) ?_
  refine z_cS (As := [.int x, .int (7 : Int32)]) (rest := [.ref (o + 1), .int z6, .ref (o + 1)]) ⟨hx, hb, hml, hown, hts⟩ (kX5_of l G x t e_x (7 : Int32) (7 : Int) kI_7 (by first | assumption | omega)) (va_cwS 2 hts gX5_note_X5_of rfl rfl rfl hyX5_of ⟨Nat.le_of_ble_eq_true rfl, Nat.le_of_ble_eq_true rfl⟩) hK trivial rfl hl.1 rfl (Nat.le_of_ble_eq_true rfl) dX5_note_45 ⟨Nat.zero_le _, Nat.zero_le _⟩ (fun z7 e7 => ?_)
  have e7 : z7.toInt = 10 + 731 * t + (7 : Int) := e7
  refine z_iald (f := upd μ.2.1 (10 + 731 * t + ((610 : Int) + τ.1.toInt)).toNat (1 : Int32)) hx hb hK 0 hM.2.1 rfl e7 (by omega) dX5_note_48 ?_
  have hcl8 : ((upd μ.2.1 (10 + 731 * t + ((610 : Int) + τ.1.toInt)).toNat (1 : Int32)) (10 + 731 * t + (7 : Int)).toNat).toInt = ((τ.2.2 t.toNat).1 7).toInt := (by rw [upd_ne (by omega)]; exact hR.sc ht 7 (by omega))
  refine z_iastMs hx hb hK hM hS (by simp only [iv]; omega) e6 (by omega) dX5_note_49 (fun H locs hM hsz hq hS => ?_)
  have hM : MO G H o (μ.1, upd (upd μ.2.1 (10 + 731 * t + ((610 : Int) + τ.1.toInt)).toNat (1 : Int32)) (10 + 731 * t + ((489 : Int) + τ.1.toInt)).toNat ((upd μ.2.1 (10 + 731 * t + ((610 : Int) + τ.1.toInt)).toNat (1 : Int32)) (10 + 731 * t + (7 : Int)).toNat), μ.2.2.1, μ.2.2.2.1, μ.2.2.2.2) := hM
  exact z_rv hx hb hr hlocks ⟨_, hM, ⟨hR.note hok ht (by assumption), rfl, rfl⟩⟩ hS dX5_note_50

abbrev rmX5_level : Room := { frames := 2, cells := 0, slots := 0, locals := 42 }
theorem iwX5_level_5 : ∀ w ∈ wsX50, w ∈ wsX5_level := fun _ h => List.mem_cons_of_mem _ (List.mem_append_right _ h)
theorem flX5_level_7 : Cond.fieldLink RX5 7 "SiltedFloatsModel" "s" "[I" ∈ wsX5_level := by decide +kernel
theorem hyX5_level : yX5_level.cls = RX5 ∧ yX5_level.cls ≠ "java/lang/invoke/MethodHandle" ∧ yX5_level.cls ≠ "java/lang/invoke/VarHandle" ∧ (parseMethodDescriptor yX5_level.desc).map (fun d => d.parameters.length) = some 1 := by decide +kernel
set_option maxHeartbeats 1000000 in
set_option maxRecDepth 100000 in
theorem kX5_level (l : Launch) (G : xG) (o : Nat) (μ : MD) (x : Int32) (t : Int) (e_x : x.toInt = t) (σ : FD) (hRel : Rel σ μ) (hfd : fdOk σ) : Met l yX5_level wsX5_level rmX5_level (va_Pc [.ref o, .int x] (zPre G (fun H => MO G H o μ))) (zW (fun v => v.toInt = a_level σ t) (fun H => ∃ n9 : MD, MO G H o n9 ∧ (Rel (s_level σ t) n9)) (iv o 5)) 0 0 (iv o 5) := by
  refine z_ofW (cc := cX5_level) (maxL := 2) (ret := some .int) (by decide +kernel) rfl (Nat.le_of_ble_eq_true rfl) ?_
  intro p e s m below meth c hx hb hml hr hts hown hlocks hK hP ls hl
  have hM := hP
  have hown : s.vm.findClass RX5 = some m.cls := hown
  have hl : lv_has ls 2 [(0, .ref o), (1, .int x)] := hl
  have hS : va_S (iv o 5) s.heap s.heap [] := va_S.rf
  have hR := hRel.1
  have hok := hfd.1
  have hn0 := hR.1
  have hok1 := hok.1
  have hW := hR.w
  have hwo := hok.2.1
  have hkn : 0 ≤ (μ.1 2).toInt ∧ (μ.1 2).toInt ≤ 4 := by rw [hRel.2.1.1]; exact hfd.2.2.2.2.1
  refine lv_iload_n hx hb dX5_level_0 rfl (lv_at hl 1 rfl) ?_
  refine z_cS (As := [.int x]) (rest := []) ⟨hx, hb, hml, hown, hts⟩ (kX5_isStation l G x t e_x) (va_cwS 1 hts gX5_level_X5_isStation rfl rfl rfl hyX5_isStation ⟨Nat.le_of_ble_eq_true rfl, Nat.le_of_ble_eq_true rfl⟩) hK trivial rfl hl.1 rfl (Nat.le_of_ble_eq_true rfl) dX5_level_1 ⟨Nat.zero_le _, Nat.zero_le _⟩ (fun z1 e1 => ?_)
  have e1 : isB z1 (0 ≤ t ∧ t < 3) := e1
  refine z_ifb_ne (tgt := 9) hx hb e1 dX5_level_4 (by decide) (fun c_2 => ?_) (fun c_2 => ?_)
  · have ht : 0 ≤ t ∧ t < 3 := c_2
    have hgo := hok.2.2 t.toNat (by omega)
    have hlv : (μ.2.1 (10 + 731 * t + (610 + σ.1.1.toInt)).toNat).toInt = 1 ↔ ((σ.1.2.2 t.toNat).1 11).toInt = σ.1.1.toInt := hR.noted hok ht
    refine lv_aload_n hx hb dX5_level_9 rfl (lv_at hl 0 rfl) ?_
    refine z_get hx hb hts iwX5_level_5 hown hK hM.1 rfl 0 (by decide) flX5_level_7 rfl (v := .ref (o + 1)) rfl dX5_level_10 ?_
    refine lv_iload_n hx hb dX5_level_13 rfl (lv_at hl 1 rfl) ?_
    refine lv_sipush (v := (610 : Int32)) hx hb dX5_level_14 (by decide) ?_
    refine lv_aload_n hx hb dX5_level_17 rfl (lv_at hl 0 rfl) ?_
    refine z_get hx hb hts iwX5_level_5 hown hK hM.1 rfl 0 (by decide) flX5_level_7 rfl (v := .ref (o + 1)) rfl dX5_level_18 ?_
    refine lv_iconst (v := (0 : Int32)) hx hb dX5_level_21 (by decide) ?_
    refine z_iald (f := μ.2.1) hx hb hK 0 hM.2.1 rfl kI_0 (by omega) dX5_level_22 ?_
    have hcl3 : (μ.2.1 (0 : Int).toNat).toInt = σ.1.1.toInt := hn0
    refine z_iadd hx hb kI_610 hcl3 dX5_level_23 (by omega) (fun z4 e4 => ?_)
    refine z_cS (As := [.int x, .int z4]) (rest := [.ref (o + 1)]) ⟨hx, hb, hml, hown, hts⟩ (kX5_of l G x t e_x z4 ((610 : Int) + σ.1.1.toInt) e4 (by first | assumption | omega)) (va_cwS 2 hts gX5_level_X5_of rfl rfl rfl hyX5_of ⟨Nat.le_of_ble_eq_true rfl, Nat.le_of_ble_eq_true rfl⟩) hK trivial rfl hl.1 rfl (Nat.le_of_ble_eq_true rfl) dX5_level_24 ⟨Nat.zero_le _, Nat.zero_le _⟩ (fun z5 e5 => ?_)
    have e5 : z5.toInt = 10 + 731 * t + ((610 : Int) + σ.1.1.toInt) := e5
    refine z_iald (f := μ.2.1) hx hb hK 0 hM.2.1 rfl e5 (by omega) dX5_level_27 ?_
    refine lv_iconst (v := (1 : Int32)) hx hb dX5_level_28 (by decide) ?_
    refine z_icmp_ne (tgt := 35) hx hb rfl kI_1 dX5_level_29 (by decide) (fun c_6 => ?_) (fun c_6 => ?_)
    · refine lv_aload_n hx hb dX5_level_35 rfl (lv_at hl 0 rfl) ?_
      refine z_cVv (As := []) (rest := []) ⟨hx, hb, hml, hown, hts⟩ (kX5_know l G o μ (by first | assumption | omega)) (cwV 0 hts gX5_level_X5_know rfl rfl rfl hyX5_know ⟨Nat.le_of_ble_eq_true rfl, Nat.le_of_ble_eq_true rfl⟩) hK hM hM.1 rfl rfl hl.1 rfl (Nat.le_of_ble_eq_true rfl) dX5_level_36 ⟨Nat.zero_le _, Nat.zero_le _⟩ hS (fun q h => by simp only [iv] at h ⊢; omega) (fun H locs hB hsz hq hS => ?_)
      have hM := hB
      have hM : MO G H o (kwS μ, μ.2.1, kwB μ, μ.2.2.2) := hM
      refine lv_aload_n hx hb dX5_level_39 rfl (lv_at hl 0 rfl) ?_
      refine lv_iload_n hx hb dX5_level_40 rfl (lv_at hl 1 rfl) ?_
      refine z_cVv (As := [.int x]) (rest := []) ⟨hx, hb, hml, hown, hts⟩ (kX5_note l G o (kwS μ, μ.2.1, kwB μ, μ.2.2.2) x t e_x σ.1 (by first | assumption | omega) (by first | assumption | omega) (by first | assumption | omega)) (cwV 1 hts gX5_level_X5_note rfl rfl rfl hyX5_note ⟨Nat.le_of_ble_eq_true rfl, Nat.le_of_ble_eq_true rfl⟩) hK hM hM.1 rfl rfl hl.1 rfl (Nat.le_of_ble_eq_true rfl) dX5_level_41 ⟨Nat.zero_le _, Nat.zero_le _⟩ hS (fun q h => by simp only [iv] at h ⊢; omega) (fun H locs hB hsz hq hS => ?_)
      obtain ⟨m41, hM, hp41⟩ := hB
      have hM : MO G H o m41 := hM
      have hp41 : (Rs (σ.1.1, σ.1.2.1, va_up σ.1.2.2 t.toNat (ntG (σ.1.2.2 t.toNat) σ.1.1)) m41.2.1 ∧ Mf (kwS μ, μ.2.1, kwB μ, μ.2.2.2) m41) := hp41
      refine lv_aload_n hx hb dX5_level_44 rfl (lv_at hl 0 rfl) ?_
      refine z_get hx hb hts iwX5_level_5 hown hK hM.1 rfl 0 (by decide) flX5_level_7 rfl (v := .ref (o + 1)) rfl dX5_level_45 ?_
      refine lv_iload_n hx hb dX5_level_48 rfl (lv_at hl 1 rfl) ?_
      refine lv_bipush (v := (7 : Int32)) hx hb dX5_level_49 (by decide) ?_
      refine z_cS (As := [.int x, .int (7 : Int32)]) (rest := [.ref (o + 1)]) ⟨hx, hb, hml, hown, hts⟩ (kX5_of l G x t e_x (7 : Int32) (7 : Int) kI_7 (by first | assumption | omega)) (va_cwS 2 hts gX5_level_X5_of rfl rfl rfl hyX5_of ⟨Nat.le_of_ble_eq_true rfl, Nat.le_of_ble_eq_true rfl⟩) hK trivial rfl hl.1 rfl (Nat.le_of_ble_eq_true rfl) dX5_level_51 ⟨Nat.zero_le _, Nat.zero_le _⟩ (fun z9 e9 => ?_)
      have e9 : z9.toInt = 10 + 731 * t + (7 : Int) := e9
      refine z_iald (f := m41.2.1) hx hb hK 0 hM.2.1 rfl e9 (by omega) dX5_level_54 ?_
      have hcl10 : (m41.2.1 (10 + 731 * t + (7 : Int)).toNat).toInt = ((σ.1.2.2 t.toNat).1 7).toInt := ((hp41.1.sc ht 7 (by omega)).trans (by show ((va_up σ.1.2.2 t.toNat (ntG (σ.1.2.2 t.toNat) σ.1.1) t.toNat).1 7).toInt = _; rw [va_up_self, ntG_7]))
      exact z_riw (v := m41.2.1 (10 + 731 * t + (7 : Int)).toNat) hx hb hr hlocks (show (m41.2.1 (10 + 731 * t + (7 : Int)).toNat).toInt = a_level σ t from (by unfold a_level; first | (rw [if_pos (by omega)]; rfl) | (rw [if_neg (by omega), if_pos (hlv.mp (by assumption))]; rfl) | (rw [if_neg (by omega), if_neg (fun q => absurd (hlv.mpr q) (by assumption))]; exact hcl10))) ⟨_, hM, (by unfold s_level; rw [if_pos ⟨by omega, fun q => absurd (hlv.mpr q) (by assumption)⟩]; exact hRel.act hfd hp41.1 hp41.2.1 hp41.2.2)⟩ hS dX5_level_55
    · refine lv_bipush (v := (-5 : Int32)) hx hb dX5_level_32 (by decide) ?_
      exact z_riw (v := (-5 : Int32)) hx hb hr hlocks (show (-5 : Int32).toInt = a_level σ t from (by unfold a_level; first | (rw [if_pos (by omega)]; rfl) | (rw [if_neg (by omega), if_pos (hlv.mp (by assumption))]; rfl) | (rw [if_neg (by omega), if_neg (fun q => absurd (hlv.mpr q) (by assumption))]; exact kI_m5))) ⟨_, hM, (by unfold s_level; rw [if_neg (fun q => by first | omega | exact q.2 (hlv.mp (by assumption)))]; exact hRel)⟩ hS dX5_level_34
  · refine lv_iconst (v := (-1 : Int32)) hx hb dX5_level_7 (by decide) ?_
    exact z_riw (v := (-1 : Int32)) hx hb hr hlocks (show (-1 : Int32).toInt = a_level σ t from (by unfold a_level; first | (rw [if_pos (by omega)]; rfl) | (rw [if_neg (by omega), if_pos (hlv.mp (by assumption))]; rfl) | (rw [if_neg (by omega), if_neg (fun q => absurd (hlv.mpr q) (by assumption))]; exact kI_m1))) ⟨_, hM, (by unfold s_level; rw [if_neg (fun q => by first | omega | exact q.2 (hlv.mp (by assumption)))]; exact hRel)⟩ hS dX5_level_8
