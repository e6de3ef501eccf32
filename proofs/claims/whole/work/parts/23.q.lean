abbrev rmX5_clean : Room := { frames := 2, cells := 0, slots := 0, locals := 42 }
theorem iwX5_clean_5 : ∀ w ∈ wsX50, w ∈ wsX5_clean := fun _ h => List.mem_cons_of_mem _ (List.mem_append_right _ h)
theorem flX5_clean_7 : Cond.fieldLink RX5 7 "SiltedFloatsModel" "s" "[I" ∈ wsX5_clean := by decide +kernel
theorem hyX5_clean : yX5_clean.cls = RX5 ∧ yX5_clean.cls ≠ "java/lang/invoke/MethodHandle" ∧ yX5_clean.cls ≠ "java/lang/invoke/VarHandle" ∧ (parseMethodDescriptor yX5_clean.desc).map (fun d => d.parameters.length) = some 1 := by decide +kernel
set_option maxHeartbeats 1000000 in
set_option maxRecDepth 100000 in
theorem kX5_clean (l : Launch) (G : xG) (o : Nat) (μ : MD) (x : Int32) (t : Int) (e_x : x.toInt = t) (σ : FD) (hRel : Rel σ μ) (hfd : fdOk σ) : Met l yX5_clean wsX5_clean rmX5_clean (va_Pc [.ref o, .int x] (zPre G (fun H => MO G H o μ))) (zW (fun v => v.toInt = a_clean σ t) (fun H => ∃ n9 : MD, MO G H o n9 ∧ (Rel (s_clean σ t) n9)) (iv o 5)) 0 0 (iv o 5) := by
  refine z_ofW (cc := cX5_clean) (maxL := 3) (ret := some .int) (by decide +kernel) rfl (Nat.le_of_ble_eq_true rfl) ?_
  intro p e s m below meth c hx hb hml hr hts hown hlocks hK hP ls hl
  have hM := hP
  have hown : s.vm.findClass RX5 = some m.cls := hown
  have hl : lv_has ls 3 [(0, .ref o), (1, .int x)] := hl
  have hS : va_S (iv o 5) s.heap s.heap [] := va_S.rf
  have hR := hRel.1
  have hok := hfd.1
  have hn0 := hR.1
  have hok1 := hok.1
  have hW := hR.w
  have hwo := hok.2.1
  have hkn : 0 ≤ (μ.1 2).toInt ∧ (μ.1 2).toInt ≤ 4 := by rw [hRel.2.1.1]; exact hfd.2.2.2.2.1
  refine lv_iload_n hx hb dX5_clean_0 rfl (lv_at hl 1 rfl) ?_
  refine z_cS (As := [.int x]) (rest := []) ⟨hx, hb, hml, hown, hts⟩ (kX5_isStation l G x t e_x) (va_cwS 1 hts gX5_clean_X5_isStation rfl rfl rfl hyX5_isStation ⟨Nat.le_of_ble_eq_true rfl, Nat.le_of_ble_eq_true rfl⟩) hK trivial rfl hl.1 rfl (Nat.le_of_ble_eq_true rfl) dX5_clean_1 ⟨Nat.zero_le _, Nat.zero_le _⟩ (fun z1 e1 => ?_)
  have e1 : isB z1 (0 ≤ t ∧ t < 3) := e1
  refine z_ifb_ne (tgt := 9) hx hb e1 dX5_clean_4 (by decide) (fun c_2 => ?_) (fun c_2 => ?_)
  · have ht : 0 ≤ t ∧ t < 3 := c_2
    have hgo := hok.2.2 t.toNat (by omega)
    refine lv_aload_n hx hb dX5_clean_9 rfl (lv_at hl 0 rfl) ?_
    refine z_get hx hb hts iwX5_clean_5 hown hK hM.1 rfl 0 (by decide) flX5_clean_7 rfl (v := .ref (o + 1)) rfl dX5_clean_10 ?_
    refine lv_iload_n hx hb dX5_clean_13 rfl (lv_at hl 1 rfl) ?_
    refine lv_iconst (v := (4 : Int32)) hx hb dX5_clean_14 (by decide) ?_
    refine z_cS (As := [.int x, .int (4 : Int32)]) (rest := [.ref (o + 1)]) ⟨hx, hb, hml, hown, hts⟩ (kX5_of l G x t e_x (4 : Int32) (4 : Int) kI_4 (by first | assumption | omega)) (va_cwS 2 hts gX5_clean_X5_of rfl rfl rfl hyX5_of ⟨Nat.le_of_ble_eq_true rfl, Nat.le_of_ble_eq_true rfl⟩) hK trivial rfl hl.1 rfl (Nat.le_of_ble_eq_true rfl) dX5_clean_15 ⟨Nat.zero_le _, Nat.zero_le _⟩ (fun z3 e3 => ?_)
    have e3 : z3.toInt = 10 + 731 * t + (4 : Int) := e3
    refine z_iald (f := μ.2.1) hx hb hK 0 hM.2.1 rfl e3 (by omega) dX5_clean_18 ?_
    have hcl4 : (μ.2.1 (10 + 731 * t + (4 : Int)).toNat).toInt = ((σ.1.2.2 t.toNat).1 4).toInt := (hR.sc ht 4 (by omega))
    refine lv_istore_n hx hb dX5_clean_19 rfl hl (by decide) rfl (fun ls hl => ?_)
    have hl : lv_has ls 3 [(2, .int (μ.2.1 (10 + 731 * t + (4 : Int)).toNat)), (0, .ref o), (1, .int x)] := hl
    refine lv_iload_n hx hb dX5_clean_20 rfl (lv_at hl 0 rfl) ?_
    refine z_if_ne (tgt := 27) hx hb hcl4 dX5_clean_21 (by decide) (fun c_5 => ?_) (fun c_5 => ?_)
    · refine lv_aload_n hx hb dX5_clean_27 rfl (lv_at hl 1 rfl) ?_
      refine z_cVv (As := []) (rest := []) ⟨hx, hb, hml, hown, hts⟩ (kX5_know l G o μ (by first | assumption | omega)) (cwV 0 hts gX5_clean_X5_know rfl rfl rfl hyX5_know ⟨Nat.le_of_ble_eq_true rfl, Nat.le_of_ble_eq_true rfl⟩) hK hM hM.1 rfl rfl hl.1 rfl (Nat.le_of_ble_eq_true rfl) dX5_clean_28 ⟨Nat.zero_le _, Nat.zero_le _⟩ hS (fun q h => by simp only [iv] at h ⊢; omega) (fun H locs hB hsz hq hS => ?_)
      have hM := hB
      have hM : MO G H o (kwS μ, μ.2.1, kwB μ, μ.2.2.2) := hM
      refine lv_aload_n hx hb dX5_clean_31 rfl (lv_at hl 1 rfl) ?_
      refine z_get hx hb hts iwX5_clean_5 hown hK hM.1 rfl 0 (by decide) flX5_clean_7 rfl (v := .ref (o + 1)) rfl dX5_clean_32 ?_
      refine lv_iload_n hx hb dX5_clean_35 rfl (lv_at hl 2 rfl) ?_
      refine lv_iconst (v := (4 : Int32)) hx hb dX5_clean_36 (by decide) ?_
      refine z_cS (As := [.int x, .int (4 : Int32)]) (rest := [.ref (o + 1)]) ⟨hx, hb, hml, hown, hts⟩ (kX5_of l G x t e_x (4 : Int32) (4 : Int) kI_4 (by first | assumption | omega)) (va_cwS 2 hts gX5_clean_X5_of rfl rfl rfl hyX5_of ⟨Nat.le_of_ble_eq_true rfl, Nat.le_of_ble_eq_true rfl⟩) hK trivial rfl hl.1 rfl (Nat.le_of_ble_eq_true rfl) dX5_clean_37 ⟨Nat.zero_le _, Nat.zero_le _⟩ (fun z7 e7 => ?_)
      have e7 : z7.toInt = 10 + 731 * t + (4 : Int) := e7
      refine lv_iconst (v := (0 : Int32)) hx hb dX5_clean_40 (by decide) ?_
      refine z_iastMs hx hb hK hM hS (by simp only [iv]; omega) e7 (by omega) dX5_clean_41 (fun H locs hM hsz hq hS => ?_)
      have hM : MO G H o ((kwS μ), upd μ.2.1 (10 + 731 * t + (4 : Int)).toNat (0 : Int32), (kwB μ), μ.2.2.2.1, μ.2.2.2.2) := hM
      refine lv_iload_n hx hb dX5_clean_42 rfl (lv_at hl 0 rfl) ?_
      exact z_riw (v := μ.2.1 (10 + 731 * t + (4 : Int)).toNat) hx hb hr hlocks (show (μ.2.1 (10 + 731 * t + (4 : Int)).toNat).toInt = a_clean σ t from (by unfold a_clean; (repeat' split) <;> first | rfl | omega | contradiction | assumption)) ⟨_, hM, (by unfold s_clean; rw [if_pos (by omega)]; exact hRel.act hfd (hR.set hok ht (by omega)) rfl rfl)⟩ hS dX5_clean_43
    · refine lv_bipush (v := (-5 : Int32)) hx hb dX5_clean_24 (by decide) ?_
      exact z_riw (v := (-5 : Int32)) hx hb hr hlocks (show (-5 : Int32).toInt = a_clean σ t from (by unfold a_clean; (repeat' split) <;> first | rfl | omega | contradiction | assumption)) ⟨_, hM, (by unfold s_clean; rw [if_neg (by omega)]; exact hRel)⟩ hS dX5_clean_26
  · refine lv_iconst (v := (-1 : Int32)) hx hb dX5_clean_7 (by decide) ?_
    exact z_riw (v := (-1 : Int32)) hx hb hr hlocks (show (-1 : Int32).toInt = a_clean σ t from (by unfold a_clean; (repeat' split) <;> first | rfl | omega | contradiction | assumption)) ⟨_, hM, (by unfold s_clean; rw [if_neg (by omega)]; exact hRel)⟩ hS dX5_clean_8

abbrev rmX5_setRate : Room := { frames := 2, cells := 0, slots := 0, locals := 42 }
theorem iwX5_setRate_5 : ∀ w ∈ wsX50, w ∈ wsX5_setRate := fun _ h => List.mem_cons_of_mem _ (List.mem_append_right _ h)
theorem flX5_setRate_7 : Cond.fieldLink RX5 7 "SiltedFloatsModel" "s" "[I" ∈ wsX5_setRate := by decide +kernel
theorem hyX5_setRate : yX5_setRate.cls = RX5 ∧ yX5_setRate.cls ≠ "java/lang/invoke/MethodHandle" ∧ yX5_setRate.cls ≠ "java/lang/invoke/VarHandle" ∧ (parseMethodDescriptor yX5_setRate.desc).map (fun d => d.parameters.length) = some 3 := by decide +kernel
set_option maxHeartbeats 1000000 in
set_option maxRecDepth 100000 in
theorem kX5_setRate (l : Launch) (G : xG) (o : Nat) (μ : MD) (x : Int32) (t : Int) (e_x : x.toInt = t) (xs : Int32) (b : Int) (e_xs : xs.toInt = b) (xh : Int32) (h : Int) (e_xh : xh.toInt = h) (σ : FD) (hRel : Rel σ μ) (hfd : fdOk σ) (hb01 : b = 0 ∨ b = 1) : Met l yX5_setRate wsX5_setRate rmX5_setRate (va_Pc [.ref o, .int x, .int xs, .int xh] (zPre G (fun H => MO G H o μ))) (zW (fun v => v.toInt = a_setRate σ t b h) (fun H => ∃ n9 : MD, MO G H o n9 ∧ (Rel (s_setRate σ t b h xh) n9)) (iv o 5)) 0 0 (iv o 5) := by
  refine z_ofW (cc := cX5_setRate) (maxL := 6) (ret := some .int) (by decide +kernel) rfl (Nat.le_of_ble_eq_true rfl) ?_
  intro p e s m below meth c hx hb hml hr hts hown hlocks hK hP ls hl
  have hM := hP
  have hown : s.vm.findClass RX5 = some m.cls := hown
  have hl : lv_has ls 6 [(0, .ref o), (1, .int x), (2, .int xs), (3, .int xh)] := hl
  have hS : va_S (iv o 5) s.heap s.heap [] := va_S.rf
  have hR := hRel.1
  have hok := hfd.1
  have hn0 := hR.1
  have hok1 := hok.1
  have hW := hR.w
  have hwo := hok.2.1
  have hkn : 0 ≤ (μ.1 2).toInt ∧ (μ.1 2).toInt ≤ 4 := by rw [hRel.2.1.1]; exact hfd.2.2.2.2.1
  refine lv_iload_n hx hb dX5_setRate_0 rfl (lv_at hl 1 rfl) ?_
  refine z_cS (As := [.int x]) (rest := []) ⟨hx, hb, hml, hown, hts⟩ (kX5_isStation l G x t e_x) (va_cwS 1 hts gX5_setRate_X5_isStation rfl rfl rfl hyX5_isStation ⟨Nat.le_of_ble_eq_true rfl, Nat.le_of_ble_eq_true rfl⟩) hK trivial rfl hl.1 rfl (Nat.le_of_ble_eq_true rfl) dX5_setRate_1 ⟨Nat.zero_le _, Nat.zero_le _⟩ (fun z1 e1 => ?_)
  have e1 : isB z1 (0 ≤ t ∧ t < 3) := e1
  refine z_ifb_ne (tgt := 9) hx hb e1 dX5_setRate_4 (by decide) (fun c_2 => ?_) (fun c_2 => ?_)
  · have ht : 0 ≤ t ∧ t < 3 := c_2
    have hgo := hok.2.2 t.toNat (by omega)
    refine lv_iload_n hx hb dX5_setRate_9 rfl (lv_at hl 3 rfl) ?_
    refine lv_iconst (v := (0 : Int32)) hx hb dX5_setRate_10 (by decide) ?_
    refine lv_bipush (v := (20 : Int32)) hx hb dX5_setRate_11 (by decide) ?_
    refine z_cS (As := [.int xh, .int (0 : Int32), .int (20 : Int32)]) (rest := []) ⟨hx, hb, hml, hown, hts⟩ (kX5_in l G xh h e_xh (0 : Int32) (0 : Int) kI_0 (20 : Int32) (20 : Int) kI_20) (va_cwS 3 hts gX5_setRate_X5_in rfl rfl rfl hyX5_in ⟨Nat.le_of_ble_eq_true rfl, Nat.le_of_ble_eq_true rfl⟩) hK trivial rfl hl.1 rfl (Nat.le_of_ble_eq_true rfl) dX5_setRate_13 ⟨Nat.zero_le _, Nat.zero_le _⟩ (fun z3 e3 => ?_)
    have e3 : isB z3 ((0 : Int) ≤ h ∧ h ≤ (20 : Int)) := e3
    refine z_ifb_ne (tgt := 22) hx hb e3 dX5_setRate_16 (by decide) (fun c_4 => ?_) (fun c_4 => ?_)
    · refine lv_iload_n hx hb dX5_setRate_22 rfl (lv_at hl 1 rfl) ?_
      refine lv_iload_n hx hb dX5_setRate_23 rfl (lv_at hl 2 rfl) ?_
      refine z_if_eq (tgt := 32) hx hb e_xs dX5_setRate_24 (by decide) (fun c_5 => ?_) (fun c_5 => ?_)
      · refine lv_iconst (v := (5 : Int32)) hx hb dX5_setRate_32 (by decide) ?_
        refine z_cS (As := [.int x, .int (5 : Int32)]) (rest := []) ⟨hx, hb, hml, hown, hts⟩ (kX5_of l G x t e_x (5 : Int32) (5 : Int) kI_5 (by first | assumption | omega)) (va_cwS 2 hts gX5_setRate_X5_of rfl rfl rfl hyX5_of ⟨Nat.le_of_ble_eq_true rfl, Nat.le_of_ble_eq_true rfl⟩) hK trivial rfl hl.1 rfl (Nat.le_of_ble_eq_true rfl) dX5_setRate_33 ⟨Nat.zero_le _, Nat.zero_le _⟩ (fun z6 e6 => ?_)
        have e6 : z6.toInt = 10 + 731 * t + (5 : Int) := e6
        refine lv_istore hx hb dX5_setRate_36 hl (by decide) rfl (fun ls hl => ?_)
        have hl : lv_has ls 6 [(4, .int z6), (0, .ref o), (1, .int x), (2, .int xs), (3, .int xh)] := hl
        refine lv_aload_n hx hb dX5_setRate_38 rfl (lv_at hl 1 rfl) ?_
        refine z_get hx hb hts iwX5_setRate_5 hown hK hM.1 rfl 0 (by decide) flX5_setRate_7 rfl (v := .ref (o + 1)) rfl dX5_setRate_39 ?_
        refine lv_iload hx hb dX5_setRate_42 (lv_at hl 0 rfl) ?_
        refine z_iald (f := μ.2.1) hx hb hK 0 hM.2.1 rfl e6 (by omega) dX5_setRate_44 ?_
        have hcl7 : (μ.2.1 (10 + 731 * t + (5 : Int)).toNat).toInt = (if b = 0 then ((σ.1.2.2 t.toNat).1 5).toInt else ((σ.1.2.2 t.toNat).1 6).toInt) := (by first | (rw [if_pos (by omega)]; exact hR.sc ht 5 (by omega)) | (rw [if_neg (by omega)]; exact hR.sc ht 6 (by omega)))
        refine lv_istore hx hb dX5_setRate_45 hl (by decide) rfl (fun ls hl => ?_)
        have hl : lv_has ls 6 [(5, .int (μ.2.1 (10 + 731 * t + (5 : Int)).toNat)), (4, .int z6), (0, .ref o), (1, .int x), (2, .int xs), (3, .int xh)] := hl
        refine lv_iload hx hb dX5_setRate_47 (lv_at hl 0 rfl) ?_
        refine lv_iload_n hx hb dX5_setRate_49 rfl (lv_at hl 5 rfl) ?_
        refine z_icmp_ne (tgt := 56) hx hb hcl7 e_xh dX5_setRate_50 (by decide) (fun c_8 => ?_) (fun c_8 => ?_)
        · refine lv_aload_n hx hb dX5_setRate_56 rfl (lv_at hl 2 rfl) ?_
          refine z_cVv (As := []) (rest := []) ⟨hx, hb, hml, hown, hts⟩ (kX5_know l G o μ (by first | assumption | omega)) (cwV 0 hts gX5_setRate_X5_know rfl rfl rfl hyX5_know ⟨Nat.le_of_ble_eq_true rfl, Nat.le_of_ble_eq_true rfl⟩) hK hM hM.1 rfl rfl hl.1 rfl (Nat.le_of_ble_eq_true rfl) dX5_setRate_57 ⟨Nat.zero_le _, Nat.zero_le _⟩ hS (fun q h => by simp only [iv] at h ⊢; omega) (fun H locs hB hsz hq hS => ?_)
          have hM := hB
          have hM : MO G H o (kwS μ, μ.2.1, kwB μ, μ.2.2.2) := hM
          refine lv_aload_n hx hb dX5_setRate_60 rfl (lv_at hl 2 rfl) ?_
          refine z_get hx hb hts iwX5_setRate_5 hown hK hM.1 rfl 0 (by decide) flX5_setRate_7 rfl (v := .ref (o + 1)) rfl dX5_setRate_61 ?_
          refine lv_iload hx hb dX5_setRate_64 (lv_at hl 1 rfl) ?_
          refine lv_iload_n hx hb dX5_setRate_66 rfl (lv_at hl 5 rfl) ?_
          refine z_iastMs hx hb hK hM hS (by simp only [iv]; omega) e6 (by omega) dX5_setRate_67 (fun H locs hM hsz hq hS => ?_)
          have hM : MO G H o ((kwS μ), upd μ.2.1 (10 + 731 * t + (5 : Int)).toNat xh, (kwB μ), μ.2.2.2.1, μ.2.2.2.2) := hM
          refine lv_iload hx hb dX5_setRate_68 (lv_at hl 0 rfl) ?_
          exact z_riw (v := μ.2.1 (10 + 731 * t + (5 : Int)).toNat) hx hb hr hlocks (show (μ.2.1 (10 + 731 * t + (5 : Int)).toNat).toInt = a_setRate σ t b h from (by unfold a_setRate; first | (rw [if_pos (by omega)]; rfl) | (rw [if_neg (by omega), if_pos (by omega)]; rfl) | (rw [if_neg (by omega), if_neg (by omega), if_pos (by assumption)]; rfl) | (rw [if_neg (by omega), if_neg (by omega), if_neg (by assumption)]; exact hcl7))) ⟨_, hM, (by unfold s_setRate; rw [if_pos ⟨by omega, by omega, by assumption⟩]; refine hRel.act hfd (m := ((kwS μ), upd μ.2.1 (10 + 731 * t + (5 : Int)).toNat xh, (kwB μ), μ.2.2.2.1, μ.2.2.2.2)) ?_ rfl rfl; first | (rw [if_pos (by omega)]; exact hR.set hok ht (by omega)) | (rw [if_neg (by omega)]; exact hR.set hok ht (by omega)))⟩ hS dX5_setRate_70
        · refine lv_bipush (v := (-5 : Int32)) hx hb dX5_setRate_53 (by decide) ?_
          exact z_riw (v := (-5 : Int32)) hx hb hr hlocks (show (-5 : Int32).toInt = a_setRate σ t b h from (by unfold a_setRate; first | (rw [if_pos (by omega)]; rfl) | (rw [if_neg (by omega), if_pos (by omega)]; rfl) | (rw [if_neg (by omega), if_neg (by omega), if_pos (by assumption)]; rfl) | (rw [if_neg (by omega), if_neg (by omega), if_neg (by assumption)]; exact kI_m5))) ⟨_, hM, (by unfold s_setRate; rw [if_neg (fun q => by first | omega | exact q.2.2 (by assumption))]; exact hRel)⟩ hS dX5_setRate_55
      · refine lv_bipush (v := (6 : Int32)) hx hb dX5_setRate_27 (by decide) ?_
        refine lv_goto (tgt := 33) hx hb dX5_setRate_29 (by decide) ?_
        refine z_cS (As := [.int x, .int (6 : Int32)]) (rest := []) ⟨hx, hb, hml, hown, hts⟩ (kX5_of l G x t e_x (6 : Int32) (6 : Int) kI_6 (by first | assumption | omega)) (va_cwS 2 hts gX5_setRate_X5_of rfl rfl rfl hyX5_of ⟨Nat.le_of_ble_eq_true rfl, Nat.le_of_ble_eq_true rfl⟩) hK trivial rfl hl.1 rfl (Nat.le_of_ble_eq_true rfl) dX5_setRate_33 ⟨Nat.zero_le _, Nat.zero_le _⟩ (fun z10 e10 => ?_)
        have e10 : z10.toInt = 10 + 731 * t + (6 : Int) := e10
        refine lv_istore hx hb dX5_setRate_36 hl (by decide) rfl (fun ls hl => ?_)
        have hl : lv_has ls 6 [(4, .int z10), (0, .ref o), (1, .int x), (2, .int xs), (3, .int xh)] := hl
        refine lv_aload_n hx hb dX5_setRate_38 rfl (lv_at hl 1 rfl) ?_
        refine z_get hx hb hts iwX5_setRate_5 hown hK hM.1 rfl 0 (by decide) flX5_setRate_7 rfl (v := .ref (o + 1)) rfl dX5_setRate_39 ?_
        refine lv_iload hx hb dX5_setRate_42 (lv_at hl 0 rfl) ?_
        refine z_iald (f := μ.2.1) hx hb hK 0 hM.2.1 rfl e10 (by omega) dX5_setRate_44 ?_
        have hcl11 : (μ.2.1 (10 + 731 * t + (6 : Int)).toNat).toInt = (if b = 0 then ((σ.1.2.2 t.toNat).1 5).toInt else ((σ.1.2.2 t.toNat).1 6).toInt) := (by first | (rw [if_pos (by omega)]; exact hR.sc ht 5 (by omega)) | (rw [if_neg (by omega)]; exact hR.sc ht 6 (by omega)))
        refine lv_istore hx hb dX5_setRate_45 hl (by decide) rfl (fun ls hl => ?_)
        have hl : lv_has ls 6 [(5, .int (μ.2.1 (10 + 731 * t + (6 : Int)).toNat)), (4, .int z10), (0, .ref o), (1, .int x), (2, .int xs), (3, .int xh)] := hl
        refine lv_iload hx hb dX5_setRate_47 (lv_at hl 0 rfl) ?_
        refine lv_iload_n hx hb dX5_setRate_49 rfl (lv_at hl 5 rfl) ?_
        refine z_icmp_ne (tgt := 56) hx hb hcl11 e_xh dX5_setRate_50 (by decide) (fun c_12 => ?_) (fun c_12 => ?_)
        · refine lv_aload_n hx hb dX5_setRate_56 rfl (lv_at hl 2 rfl) ?_
          refine z_cVv (As := []) (rest := []) ⟨hx, hb, hml, hown, hts⟩ (kX5_know l G o μ (by first | assumption | omega)) (cwV 0 hts gX5_setRate_X5_know rfl rfl rfl hyX5_know ⟨Nat.le_of_ble_eq_true rfl, Nat.le_of_ble_eq_true rfl⟩) hK hM hM.1 rfl rfl hl.1 rfl (Nat.le_of_ble_eq_true rfl) dX5_setRate_57 ⟨Nat.zero_le _, Nat.zero_le _⟩ hS (fun q h => by simp only [iv] at h ⊢; omega) (fun H locs hB hsz hq hS => ?_)
          have hM := hB
          have hM : MO G H o (kwS μ, μ.2.1, kwB μ, μ.2.2.2) := hM
          refine lv_aload_n hx hb dX5_setRate_60 rfl (lv_at hl 2 rfl) ?_
          refine z_get hx hb hts iwX5_setRate_5 hown hK hM.1 rfl 0 (by decide) flX5_setRate_7 rfl (v := .ref (o + 1)) rfl dX5_setRate_61 ?_
          refine lv_iload hx hb dX5_setRate_64 (lv_at hl 1 rfl) ?_
          refine lv_iload_n hx hb dX5_setRate_66 rfl (lv_at hl 5 rfl) ?_
          refine z_iastMs hx hb hK hM hS (by simp only [iv]; omega) e10 (by omega) dX5_setRate_67 (fun H locs hM hsz hq hS => ?_)
          have hM : MO G H o ((kwS μ), upd μ.2.1 (10 + 731 * t + (6 : Int)).toNat xh, (kwB μ), μ.2.2.2.1, μ.2.2.2.2) := hM
          refine lv_iload hx hb dX5_setRate_68 (lv_at hl 0 rfl) ?_
          exact z_riw (v := μ.2.1 (10 + 731 * t + (6 : Int)).toNat) hx hb hr hlocks (show (μ.2.1 (10 + 731 * t + (6 : Int)).toNat).toInt = a_setRate σ t b h from (by unfold a_setRate; first | (rw [if_pos (by omega)]; rfl) | (rw [if_neg (by omega), if_pos (by omega)]; rfl) | (rw [if_neg (by omega), if_neg (by omega), if_pos (by assumption)]; rfl) | (rw [if_neg (by omega), if_neg (by omega), if_neg (by assumption)]; exact hcl11))) ⟨_, hM, (by unfold s_setRate; rw [if_pos ⟨by omega, by omega, by assumption⟩]; refine hRel.act hfd (m := ((kwS μ), upd μ.2.1 (10 + 731 * t + (6 : Int)).toNat xh, (kwB μ), μ.2.2.2.1, μ.2.2.2.2)) ?_ rfl rfl; first | (rw [if_pos (by omega)]; exact hR.set hok ht (by omega)) | (rw [if_neg (by omega)]; exact hR.set hok ht (by omega)))⟩ hS dX5_setRate_70
        · refine lv_bipush (v := (-5 : Int32)) hx hb dX5_setRate_53 (by decide) ?_
          exact z_riw (v := (-5 : Int32)) hx hb hr hlocks (show (-5 : Int32).toInt = a_setRate σ t b h from (by unfold a_setRate; first | (rw [if_pos (by omega)]; rfl) | (rw [if_neg (by omega), if_pos (by omega)]; rfl) | (rw [if_neg (by omega), if_neg (by omega), if_pos (by assumption)]; rfl) | (rw [if_neg (by omega), if_neg (by omega), if_neg (by assumption)]; exact kI_m5))) ⟨_, hM, (by unfold s_setRate; rw [if_neg (fun q => by first | omega | exact q.2.2 (by assumption))]; exact hRel)⟩ hS dX5_setRate_55
    · refine lv_bipush (v := (-2 : Int32)) hx hb dX5_setRate_19 (by decide) ?_
      exact z_riw (v := (-2 : Int32)) hx hb hr hlocks (show (-2 : Int32).toInt = a_setRate σ t b h from (by unfold a_setRate; first | (rw [if_pos (by omega)]; rfl) | (rw [if_neg (by omega), if_pos (by omega)]; rfl) | (rw [if_neg (by omega), if_neg (by omega), if_pos (by assumption)]; rfl) | (rw [if_neg (by omega), if_neg (by omega), if_neg (by assumption)]; exact kI_m2))) ⟨_, hM, (by unfold s_setRate; rw [if_neg (fun q => by first | omega | exact q.2.2 (by assumption))]; exact hRel)⟩ hS dX5_setRate_21
  · refine lv_iconst (v := (-1 : Int32)) hx hb dX5_setRate_7 (by decide) ?_
    exact z_riw (v := (-1 : Int32)) hx hb hr hlocks (show (-1 : Int32).toInt = a_setRate σ t b h from (by unfold a_setRate; first | (rw [if_pos (by omega)]; rfl) | (rw [if_neg (by omega), if_pos (by omega)]; rfl) | (rw [if_neg (by omega), if_neg (by omega), if_pos (by assumption)]; rfl) | (rw [if_neg (by omega), if_neg (by omega), if_neg (by assumption)]; exact kI_m1))) ⟨_, hM, (by unfold s_setRate; rw [if_neg (fun q => by first | omega | exact q.2.2 (by assumption))]; exact hRel)⟩ hS dX5_setRate_8

abbrev rmX5_type : Room := { frames := 0, cells := 0, slots := 0, locals := 0 }
theorem iwX5_type_5 : ∀ w ∈ wsX50, w ∈ wsX5_type := fun _ h => List.mem_cons_of_mem _ (List.mem_append_right _ h)
theorem flX5_type_19 : Cond.fieldLink RX5 19 "SiltedFloatsModel" "text" "[I" ∈ wsX5_type := by decide +kernel
theorem flX5_type_72 : Cond.fieldLink RX5 72 "SiltedFloatsModel" "typed" "I" ∈ wsX5_type := by decide +kernel
theorem hyX5_type : yX5_type.cls = RX5 ∧ yX5_type.cls ≠ "java/lang/invoke/MethodHandle" ∧ yX5_type.cls ≠ "java/lang/invoke/VarHandle" ∧ (parseMethodDescriptor yX5_type.desc).map (fun d => d.parameters.length) = some 1 := by decide +kernel
set_option maxHeartbeats 1000000 in
set_option maxRecDepth 100000 in
theorem kX5_type (l : Launch) (G : xG) (o : Nat) (μ : MD) (x : Int32) (k : Int) (e_x : x.toInt = k) (σ : FD) (hRel : Rel σ μ) (hfd : fdOk σ) (hc : 0 ≤ k ∧ k ≤ 65535) : Met l yX5_type wsX5_type rmX5_type (va_Pc [.ref o, .int x] (zPre G (fun H => MO G H o μ))) (zW (fun v => v.toInt = a_type σ) (fun H => ∃ n9 : MD, MO G H o n9 ∧ (Rel (s_type σ x) n9)) (iv o 5)) 0 0 (iv o 5) := by
  refine z_ofW (cc := cX5_type) (maxL := 2) (ret := some .int) (by decide +kernel) rfl (Nat.le_of_ble_eq_true rfl) ?_
  intro p e s m below meth c hx hb hml hr hts hown hlocks hK hP ls hl
  have hM := hP
  have hown : s.vm.findClass RX5 = some m.cls := hown
  have hl : lv_has ls 2 [(0, .ref o), (1, .int x)] := hl
  have hS : va_S (iv o 5) s.heap s.heap [] := va_S.rf
  have hR := hRel.1
  have hok := hfd.1
  have hn0 := hR.1
  have hok1 := hok.1
  have hW := hR.w
  have hwo := hok.2.1
  have hkn : 0 ≤ (μ.1 2).toInt ∧ (μ.1 2).toInt ≤ 4 := by rw [hRel.2.1.1]; exact hfd.2.2.2.2.1
  have hox := hfd.2.2.2.2.2
  unfold textOk at hox
  have htl := hRel.2.2.2.1
  refine lv_aload_n hx hb dX5_type_0 rfl (lv_at hl 0 rfl) ?_
  refine z_get hx hb hts iwX5_type_5 hown hK hM.1 rfl 6 (by decide) flX5_type_72 rfl (v := .int (μ.1 6)) rfl dX5_type_1 ?_
  refine lv_bipush (v := (60 : Int32)) hx hb dX5_type_4 (by decide) ?_
  refine z_icmp_ne (tgt := 12) hx hb rfl kI_60 dX5_type_6 (by decide) (fun c_1 => ?_) (fun c_1 => ?_)
  · refine lv_aload_n hx hb dX5_type_12 rfl (lv_at hl 0 rfl) ?_
    refine z_get hx hb hts iwX5_type_5 hown hK hM.1 rfl 5 (by decide) flX5_type_19 rfl (v := .ref (o + 4)) rfl dX5_type_13 ?_
    refine lv_aload_n hx hb dX5_type_16 rfl (lv_at hl 0 rfl) ?_
    refine z_get hx hb hts iwX5_type_5 hown hK hM.1 rfl 6 (by decide) flX5_type_72 rfl (v := .int (μ.1 6)) rfl dX5_type_17 ?_
    refine lv_iload_n hx hb dX5_type_20 rfl (lv_at hl 1 rfl) ?_
    refine z_iastMt hx hb hK hM hS (by simp only [iv]; omega) rfl (by omega) dX5_type_21 (fun H locs hM hsz hq hS => ?_)
    have hM : MO G H o (μ.1, μ.2.1, μ.2.2.1, μ.2.2.2.1, upd μ.2.2.2.2 ((μ.1 6).toInt).toNat x) := hM
    refine lv_aload_n hx hb dX5_type_22 rfl (lv_at hl 0 rfl) ?_
    refine lv_dup hx hb dX5_type_23 rfl ?_
    refine z_get hx hb hts iwX5_type_5 hown hK hM.1 rfl 6 (by decide) flX5_type_72 rfl (v := .int (μ.1 6)) rfl dX5_type_24 ?_
    refine lv_iconst (v := (1 : Int32)) hx hb dX5_type_27 (by decide) ?_
    refine z_iadd hx hb rfl kI_1 dX5_type_28 (by omega) (fun z2 e2 => ?_)
    refine z_putM hx hb hts iwX5_type_5 hown hK hM hS (by simp only [iv]; omega) 6 (by decide) flX5_type_72 rfl rfl (ty := .int) rfl rfl rfl dX5_type_29 (fun H locs hM hsz hq hS => ?_)
    have hM : MO G H o (upd μ.1 6 z2, μ.2.1, μ.2.2.1, μ.2.2.2.1, upd μ.2.2.2.2 ((μ.1 6).toInt).toNat x) := hM
    refine lv_aload_n hx hb dX5_type_32 rfl (lv_at hl 0 rfl) ?_
    refine z_get hx hb hts iwX5_type_5 hown hK hM.1 rfl 6 (by decide) flX5_type_72 rfl (v := .int z2) rfl dX5_type_33 ?_
    exact z_riw (v := z2) hx hb hr hlocks (show z2.toInt = a_type σ from (by unfold a_type; (repeat' split) <;> first | rfl | omega | contradiction | assumption)) ⟨_, hM, (hRel.typ hfd (by omega) e2)⟩ hS dX5_type_36
  · refine lv_bipush (v := (-3 : Int32)) hx hb dX5_type_9 (by decide) ?_
    exact z_riw (v := (-3 : Int32)) hx hb hr hlocks (show (-3 : Int32).toInt = a_type σ from (by unfold a_type; (repeat' split) <;> first | rfl | omega | contradiction | assumption)) ⟨_, hM, (by unfold s_type; rw [if_pos (by omega)]; exact hRel)⟩ hS dX5_type_11

abbrev rmX5_clearText : Room := { frames := 0, cells := 0, slots := 0, locals := 0 }
theorem iwX5_clearText_5 : ∀ w ∈ wsX50, w ∈ wsX5_clearText := fun _ h => List.mem_cons_of_mem _ (List.mem_append_right _ h)
theorem flX5_clearText_72 : Cond.fieldLink RX5 72 "SiltedFloatsModel" "typed" "I" ∈ wsX5_clearText := by decide +kernel
theorem hyX5_clearText : yX5_clearText.cls = RX5 ∧ yX5_clearText.cls ≠ "java/lang/invoke/MethodHandle" ∧ yX5_clearText.cls ≠ "java/lang/invoke/VarHandle" ∧ (parseMethodDescriptor yX5_clearText.desc).map (fun d => d.parameters.length) = some 0 := by decide +kernel
set_option maxHeartbeats 1000000 in
set_option maxRecDepth 100000 in
theorem kX5_clearText (l : Launch) (G : xG) (o : Nat) (μ : MD) (σ : FD) (hRel : Rel σ μ) (hfd : fdOk σ) : Met l yX5_clearText wsX5_clearText rmX5_clearText (va_Pc [.ref o] (zPre G (fun H => MO G H o μ))) (zW (fun v => v.toInt = σ.2.2.2.2.2.2.1.toInt) (fun H => ∃ n9 : MD, MO G H o n9 ∧ (Rel (s_clearText σ) n9)) (iv o 5)) 0 0 (iv o 5) := by
  refine z_ofW (cc := cX5_clearText) (maxL := 2) (ret := some .int) (by decide +kernel) rfl (Nat.le_of_ble_eq_true rfl) ?_
  intro p e s m below meth c hx hb hml hr hts hown hlocks hK hP ls hl
  have hM := hP
  have hown : s.vm.findClass RX5 = some m.cls := hown
  have hl : lv_has ls 2 [(0, .ref o)] := hl
  have hS : va_S (iv o 5) s.heap s.heap [] := va_S.rf
  have hR := hRel.1
  have hok := hfd.1
  have hn0 := hR.1
  have hok1 := hok.1
  have hW := hR.w
  have hwo := hok.2.1
  have hkn : 0 ≤ (μ.1 2).toInt ∧ (μ.1 2).toInt ≤ 4 := by rw [hRel.2.1.1]; exact hfd.2.2.2.2.1
  refine lv_aload_n hx hb dX5_clearText_0 rfl (lv_at hl 0 rfl) ?_
  refine z_get hx hb hts iwX5_clearText_5 hown hK hM.1 rfl 6 (by decide) flX5_clearText_72 rfl (v := .int (μ.1 6)) rfl dX5_clearText_1 ?_
  refine lv_istore_n hx hb dX5_clearText_4 rfl hl (by decide) rfl (fun ls hl => ?_)
  have hl : lv_has ls 2 [(1, .int (μ.1 6)), (0, .ref o)] := hl
  refine lv_aload_n hx hb dX5_clearText_5 rfl (lv_at hl 1 rfl) ?_
  refine lv_iconst (v := (0 : Int32)) hx hb dX5_clearText_6 (by decide) ?_
  refine z_putM hx hb hts iwX5_clearText_5 hown hK hM hS (by simp only [iv]; omega) 6 (by decide) flX5_clearText_72 rfl rfl (ty := .int) rfl rfl rfl dX5_clearText_7 (fun H locs hM hsz hq hS => ?_)
  have hM : MO G H o (upd μ.1 6 (0 : Int32), μ.2.1, μ.2.2.1, μ.2.2.2.1, μ.2.2.2.2) := hM
  refine lv_iload_n hx hb dX5_clearText_10 rfl (lv_at hl 0 rfl) ?_
  exact z_riw (v := μ.1 6) hx hb hr hlocks (show (μ.1 6).toInt = σ.2.2.2.2.2.2.1.toInt from hRel.2.2.2.1) ⟨_, hM, hRel.clr⟩ hS dX5_clearText_11
