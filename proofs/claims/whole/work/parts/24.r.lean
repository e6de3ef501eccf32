abbrev rmX5_turn : Room := { frames := 2, cells := 0, slots := 0, locals := 42 }
theorem iwX5_turn_5 : ∀ w ∈ wsX50, w ∈ wsX5_turn := fun _ h => List.mem_cons_of_mem _ (List.mem_append_right _ h)
theorem flX5_turn_7 : Cond.fieldLink RX5 7 "SiltedFloatsModel" "s" "[I" ∈ wsX5_turn := by decide +kernel
theorem hyX5_turn : yX5_turn.cls = RX5 ∧ yX5_turn.cls ≠ "java/lang/invoke/MethodHandle" ∧ yX5_turn.cls ≠ "java/lang/invoke/VarHandle" ∧ (parseMethodDescriptor yX5_turn.desc).map (fun d => d.parameters.length) = some 2 := by decide +kernel
set_option maxHeartbeats 1000000 in
set_option maxRecDepth 100000 in
theorem kX5_turn (l : Launch) (G : xG) (o : Nat) (μ : MD) (x : Int32) (t : Int) (e_x : x.toInt = t) (xb : Int32) (b : Int) (e_xb : xb.toInt = b) (σ : FD) (hRel : Rel σ μ) (hfd : fdOk σ) (hb01 : b = 0 ∨ b = 1) : Met l yX5_turn wsX5_turn rmX5_turn (va_Pc [.ref o, .int x, .int xb] (zPre G (fun H => MO G H o μ))) (zW (fun v => v.toInt = a_turn σ t b xb) (fun H => ∃ n9 : MD, MO G H o n9 ∧ (Rel (s_turn σ t b xb) n9)) (iv o 5)) 0 0 (iv o 5) := by
  refine z_ofW (cc := cX5_turn) (maxL := 3) (ret := some .int) (by decide +kernel) rfl (Nat.le_of_ble_eq_true rfl) ?_
  intro p e s m below meth c hx hb hml hr hts hown hlocks hK hP ls hl
  have hM := hP
  have hown : s.vm.findClass RX5 = some m.cls := hown
  have hl : lv_has ls 3 [(0, .ref o), (1, .int x), (2, .int xb)] := hl
  have hS : va_S (iv o 5) s.heap s.heap [] := va_S.rf
  have hR := hRel.1
  have hok := hfd.1
  have hn0 := hR.1
  have hok1 := hok.1
  have hW := hR.w
  have hwo := hok.2.1
  have hkn : 0 ≤ (μ.1 2).toInt ∧ (μ.1 2).toInt ≤ 4 := by rw [hRel.2.1.1]; exact hfd.2.2.2.2.1
  refine lv_iload_n hx hb dX5_turn_0 rfl (lv_at hl 1 rfl) ?_
  refine z_cS (As := [.int x]) (rest := []) ⟨hx, hb, hml, hown, hts⟩ (kX5_isStation l G x t e_x) (va_cwS 1 hts gX5_turn_X5_isStation rfl rfl rfl hyX5_isStation ⟨Nat.le_of_ble_eq_true rfl, Nat.le_of_ble_eq_true rfl⟩) hK trivial rfl hl.1 rfl (Nat.le_of_ble_eq_true rfl) dX5_turn_1 ⟨Nat.zero_le _, Nat.zero_le _⟩ (fun z1 e1 => ?_)
  have e1 : isB z1 (0 ≤ t ∧ t < 3) := e1
  refine z_ifb_ne (tgt := 9) hx hb e1 dX5_turn_4 (by decide) (fun c_2 => ?_) (fun c_2 => ?_)
  · have ht : 0 ≤ t ∧ t < 3 := c_2
    have hgo := hok.2.2 t.toNat (by omega)
    have hb8 := hgo.2.2.1.2
    refine lv_aload_n hx hb dX5_turn_9 rfl (lv_at hl 0 rfl) ?_
    refine z_get hx hb hts iwX5_turn_5 hown hK hM.1 rfl 0 (by decide) flX5_turn_7 rfl (v := .ref (o + 1)) rfl dX5_turn_10 ?_
    refine lv_iload_n hx hb dX5_turn_13 rfl (lv_at hl 1 rfl) ?_
    refine lv_bipush (v := (8 : Int32)) hx hb dX5_turn_14 (by decide) ?_
    refine z_cS (As := [.int x, .int (8 : Int32)]) (rest := [.ref (o + 1)]) ⟨hx, hb, hml, hown, hts⟩ (kX5_of l G x t e_x (8 : Int32) (8 : Int) kI_8 (by first | assumption | omega)) (va_cwS 2 hts gX5_turn_X5_of rfl rfl rfl hyX5_of ⟨Nat.le_of_ble_eq_true rfl, Nat.le_of_ble_eq_true rfl⟩) hK trivial rfl hl.1 rfl (Nat.le_of_ble_eq_true rfl) dX5_turn_16 ⟨Nat.zero_le _, Nat.zero_le _⟩ (fun z3 e3 => ?_)
    have e3 : z3.toInt = 10 + 731 * t + (8 : Int) := e3
    refine z_iald (f := μ.2.1) hx hb hK 0 hM.2.1 rfl e3 (by omega) dX5_turn_19 ?_
    have hcl4 : (μ.2.1 (10 + 731 * t + (8 : Int)).toNat).toInt = ((σ.1.2.2 t.toNat).1 8).toInt := (hR.sc ht 8 (by omega))
    refine lv_iconst (v := (1 : Int32)) hx hb dX5_turn_20 (by decide) ?_
    refine z_icmp_ne (tgt := 28) hx hb hcl4 kI_1 dX5_turn_21 (by decide) (fun c_5 => ?_) (fun c_5 => ?_)
    · refine lv_iconst (v := (0 : Int32)) hx hb dX5_turn_28 (by decide) ?_
      refine lv_iload_n hx hb dX5_turn_29 rfl (lv_at hl 2 rfl) ?_
      refine z_icmp_ne (tgt := 36) hx hb kI_0 e_xb dX5_turn_30 (by decide) (fun c_6 => ?_) (fun c_6 => ?_)
      · refine lv_aload_n hx hb dX5_turn_36 rfl (lv_at hl 0 rfl) ?_
        refine z_cVv (As := []) (rest := []) ⟨hx, hb, hml, hown, hts⟩ (kX5_know l G o μ (by first | assumption | omega)) (cwV 0 hts gX5_turn_X5_know rfl rfl rfl hyX5_know ⟨Nat.le_of_ble_eq_true rfl, Nat.le_of_ble_eq_true rfl⟩) hK hM hM.1 rfl rfl hl.1 rfl (Nat.le_of_ble_eq_true rfl) dX5_turn_37 ⟨Nat.zero_le _, Nat.zero_le _⟩ hS (fun q h => by simp only [iv] at h ⊢; omega) (fun H locs hB hsz hq hS => ?_)
        have hM := hB
        have hM : MO G H o (kwS μ, μ.2.1, kwB μ, μ.2.2.2) := hM
        refine lv_aload_n hx hb dX5_turn_40 rfl (lv_at hl 0 rfl) ?_
        refine z_get hx hb hts iwX5_turn_5 hown hK hM.1 rfl 0 (by decide) flX5_turn_7 rfl (v := .ref (o + 1)) rfl dX5_turn_41 ?_
        refine lv_iload_n hx hb dX5_turn_44 rfl (lv_at hl 1 rfl) ?_
        refine lv_bipush (v := (8 : Int32)) hx hb dX5_turn_45 (by decide) ?_
        refine z_cS (As := [.int x, .int (8 : Int32)]) (rest := [.ref (o + 1)]) ⟨hx, hb, hml, hown, hts⟩ (kX5_of l G x t e_x (8 : Int32) (8 : Int) kI_8 (by first | assumption | omega)) (va_cwS 2 hts gX5_turn_X5_of rfl rfl rfl hyX5_of ⟨Nat.le_of_ble_eq_true rfl, Nat.le_of_ble_eq_true rfl⟩) hK trivial rfl hl.1 rfl (Nat.le_of_ble_eq_true rfl) dX5_turn_47 ⟨Nat.zero_le _, Nat.zero_le _⟩ (fun z8 e8 => ?_)
        have e8 : z8.toInt = 10 + 731 * t + (8 : Int) := e8
        refine lv_iload_n hx hb dX5_turn_50 rfl (lv_at hl 2 rfl) ?_
        refine z_if_eq (tgt := 58) hx hb e_xb dX5_turn_51 (by decide) (fun c_9 => ?_) (fun c_9 => ?_)
        · have hxb : (0 : Int32) = xb := zi_ext (i := 0) rfl (by omega)
          refine lv_iconst (v := (0 : Int32)) hx hb dX5_turn_58 (by decide) ?_
          refine z_iastMs hx hb hK hM hS (by simp only [iv]; omega) e8 (by omega) dX5_turn_59 (fun H locs hM hsz hq hS => ?_)
          have hM : MO G H o ((kwS μ), upd μ.2.1 (10 + 731 * t + (8 : Int)).toNat (0 : Int32), (kwB μ), μ.2.2.2.1, μ.2.2.2.2) := hM
          refine lv_aload_n hx hb dX5_turn_60 rfl (lv_at hl 0 rfl) ?_
          refine z_cV (As := []) (rest := []) ⟨hx, hb, hml, hown, hts⟩ (kX5_manyOn l G o ((kwS μ), upd μ.2.1 (10 + 731 * t + (8 : Int)).toNat (0 : Int32), (kwB μ), μ.2.2.2.1, μ.2.2.2.2) (setGF σ t (upd (σ.1.2.2 t.toNat).1 8 xb, (σ.1.2.2 t.toNat).2)) (hR.setv hok ht (k := 8) (by omega) hxb) (setGF_ok hok (on_ok hgo (by omega)))) (cwV 0 hts gX5_turn_X5_manyOn rfl rfl rfl hyX5_manyOn ⟨Nat.le_of_ble_eq_true rfl, Nat.le_of_ble_eq_true rfl⟩) hK hM hM.1 rfl rfl hl.1 rfl (Nat.le_of_ble_eq_true rfl) dX5_turn_61 ⟨Nat.zero_le _, Nat.zero_le _⟩ (fun z10 e10 => ?_)
          have e10 : z10.toInt = onN (setGF σ t (upd (σ.1.2.2 t.toNat).1 8 xb, (σ.1.2.2 t.toNat).2)).2.2 3 := e10
          exact z_riw (v := z10) hx hb hr hlocks (show z10.toInt = a_turn σ t b xb from (by unfold a_turn; (repeat' split) <;> first | rfl | omega | contradiction | assumption)) ⟨_, hM, (by unfold s_turn; rw [if_pos (by omega)]; exact hRel.act hfd (hR.setv hok ht (k := 8) (by omega) hxb) rfl rfl)⟩ hS dX5_turn_64
        · have hxb : (1 : Int32) = xb := zi_ext (i := 1) rfl (by omega)
          refine lv_iconst (v := (1 : Int32)) hx hb dX5_turn_54 (by decide) ?_
          refine lv_goto (tgt := 59) hx hb dX5_turn_55 (by decide) ?_
          refine z_iastMs hx hb hK hM hS (by simp only [iv]; omega) e8 (by omega) dX5_turn_59 (fun H locs hM hsz hq hS => ?_)
          have hM : MO G H o ((kwS μ), upd μ.2.1 (10 + 731 * t + (8 : Int)).toNat (1 : Int32), (kwB μ), μ.2.2.2.1, μ.2.2.2.2) := hM
          refine lv_aload_n hx hb dX5_turn_60 rfl (lv_at hl 0 rfl) ?_
          refine z_cV (As := []) (rest := []) ⟨hx, hb, hml, hown, hts⟩ (kX5_manyOn l G o ((kwS μ), upd μ.2.1 (10 + 731 * t + (8 : Int)).toNat (1 : Int32), (kwB μ), μ.2.2.2.1, μ.2.2.2.2) (setGF σ t (upd (σ.1.2.2 t.toNat).1 8 xb, (σ.1.2.2 t.toNat).2)) (hR.setv hok ht (k := 8) (by omega) hxb) (setGF_ok hok (on_ok hgo (by omega)))) (cwV 0 hts gX5_turn_X5_manyOn rfl rfl rfl hyX5_manyOn ⟨Nat.le_of_ble_eq_true rfl, Nat.le_of_ble_eq_true rfl⟩) hK hM hM.1 rfl rfl hl.1 rfl (Nat.le_of_ble_eq_true rfl) dX5_turn_61 ⟨Nat.zero_le _, Nat.zero_le _⟩ (fun z11 e11 => ?_)
          have e11 : z11.toInt = onN (setGF σ t (upd (σ.1.2.2 t.toNat).1 8 xb, (σ.1.2.2 t.toNat).2)).2.2 3 := e11
          exact z_riw (v := z11) hx hb hr hlocks (show z11.toInt = a_turn σ t b xb from (by unfold a_turn; (repeat' split) <;> first | rfl | omega | contradiction | assumption)) ⟨_, hM, (by unfold s_turn; rw [if_pos (by omega)]; exact hRel.act hfd (hR.setv hok ht (k := 8) (by omega) hxb) rfl rfl)⟩ hS dX5_turn_64
      · refine lv_bipush (v := (-5 : Int32)) hx hb dX5_turn_33 (by decide) ?_
        exact z_riw (v := (-5 : Int32)) hx hb hr hlocks (show (-5 : Int32).toInt = a_turn σ t b xb from (by unfold a_turn; (repeat' split) <;> first | rfl | omega | contradiction | assumption)) ⟨_, hM, (by unfold s_turn; rw [if_neg (by omega)]; exact hRel)⟩ hS dX5_turn_35
    · refine lv_iconst (v := (1 : Int32)) hx hb dX5_turn_24 (by decide) ?_
      refine lv_goto (tgt := 29) hx hb dX5_turn_25 (by decide) ?_
      refine lv_iload_n hx hb dX5_turn_29 rfl (lv_at hl 2 rfl) ?_
      refine z_icmp_ne (tgt := 36) hx hb kI_1 e_xb dX5_turn_30 (by decide) (fun c_12 => ?_) (fun c_12 => ?_)
      · refine lv_aload_n hx hb dX5_turn_36 rfl (lv_at hl 0 rfl) ?_
        refine z_cVv (As := []) (rest := []) ⟨hx, hb, hml, hown, hts⟩ (kX5_know l G o μ (by first | assumption | omega)) (cwV 0 hts gX5_turn_X5_know rfl rfl rfl hyX5_know ⟨Nat.le_of_ble_eq_true rfl, Nat.le_of_ble_eq_true rfl⟩) hK hM hM.1 rfl rfl hl.1 rfl (Nat.le_of_ble_eq_true rfl) dX5_turn_37 ⟨Nat.zero_le _, Nat.zero_le _⟩ hS (fun q h => by simp only [iv] at h ⊢; omega) (fun H locs hB hsz hq hS => ?_)
        have hM := hB
        have hM : MO G H o (kwS μ, μ.2.1, kwB μ, μ.2.2.2) := hM
        refine lv_aload_n hx hb dX5_turn_40 rfl (lv_at hl 0 rfl) ?_
        refine z_get hx hb hts iwX5_turn_5 hown hK hM.1 rfl 0 (by decide) flX5_turn_7 rfl (v := .ref (o + 1)) rfl dX5_turn_41 ?_
        refine lv_iload_n hx hb dX5_turn_44 rfl (lv_at hl 1 rfl) ?_
        refine lv_bipush (v := (8 : Int32)) hx hb dX5_turn_45 (by decide) ?_
        refine z_cS (As := [.int x, .int (8 : Int32)]) (rest := [.ref (o + 1)]) ⟨hx, hb, hml, hown, hts⟩ (kX5_of l G x t e_x (8 : Int32) (8 : Int) kI_8 (by first | assumption | omega)) (va_cwS 2 hts gX5_turn_X5_of rfl rfl rfl hyX5_of ⟨Nat.le_of_ble_eq_true rfl, Nat.le_of_ble_eq_true rfl⟩) hK trivial rfl hl.1 rfl (Nat.le_of_ble_eq_true rfl) dX5_turn_47 ⟨Nat.zero_le _, Nat.zero_le _⟩ (fun z14 e14 => ?_)
        have e14 : z14.toInt = 10 + 731 * t + (8 : Int) := e14
        refine lv_iload_n hx hb dX5_turn_50 rfl (lv_at hl 2 rfl) ?_
        refine z_if_eq (tgt := 58) hx hb e_xb dX5_turn_51 (by decide) (fun c_15 => ?_) (fun c_15 => ?_)
        · have hxb : (0 : Int32) = xb := zi_ext (i := 0) rfl (by omega)
          refine lv_iconst (v := (0 : Int32)) hx hb dX5_turn_58 (by decide) ?_
          refine z_iastMs hx hb hK hM hS (by simp only [iv]; omega) e14 (by omega) dX5_turn_59 (fun H locs hM hsz hq hS => ?_)
          have hM : MO G H o ((kwS μ), upd μ.2.1 (10 + 731 * t + (8 : Int)).toNat (0 : Int32), (kwB μ), μ.2.2.2.1, μ.2.2.2.2) := hM
          refine lv_aload_n hx hb dX5_turn_60 rfl (lv_at hl 0 rfl) ?_
          refine z_cV (As := []) (rest := []) ⟨hx, hb, hml, hown, hts⟩ (kX5_manyOn l G o ((kwS μ), upd μ.2.1 (10 + 731 * t + (8 : Int)).toNat (0 : Int32), (kwB μ), μ.2.2.2.1, μ.2.2.2.2) (setGF σ t (upd (σ.1.2.2 t.toNat).1 8 xb, (σ.1.2.2 t.toNat).2)) (hR.setv hok ht (k := 8) (by omega) hxb) (setGF_ok hok (on_ok hgo (by omega)))) (cwV 0 hts gX5_turn_X5_manyOn rfl rfl rfl hyX5_manyOn ⟨Nat.le_of_ble_eq_true rfl, Nat.le_of_ble_eq_true rfl⟩) hK hM hM.1 rfl rfl hl.1 rfl (Nat.le_of_ble_eq_true rfl) dX5_turn_61 ⟨Nat.zero_le _, Nat.zero_le _⟩ (fun z16 e16 => ?_)
          have e16 : z16.toInt = onN (setGF σ t (upd (σ.1.2.2 t.toNat).1 8 xb, (σ.1.2.2 t.toNat).2)).2.2 3 := e16
          exact z_riw (v := z16) hx hb hr hlocks (show z16.toInt = a_turn σ t b xb from (by unfold a_turn; (repeat' split) <;> first | rfl | omega | contradiction | assumption)) ⟨_, hM, (by unfold s_turn; rw [if_pos (by omega)]; exact hRel.act hfd (hR.setv hok ht (k := 8) (by omega) hxb) rfl rfl)⟩ hS dX5_turn_64
        · have hxb : (1 : Int32) = xb := zi_ext (i := 1) rfl (by omega)
          refine lv_iconst (v := (1 : Int32)) hx hb dX5_turn_54 (by decide) ?_
          refine lv_goto (tgt := 59) hx hb dX5_turn_55 (by decide) ?_
          refine z_iastMs hx hb hK hM hS (by simp only [iv]; omega) e14 (by omega) dX5_turn_59 (fun H locs hM hsz hq hS => ?_)
          have hM : MO G H o ((kwS μ), upd μ.2.1 (10 + 731 * t + (8 : Int)).toNat (1 : Int32), (kwB μ), μ.2.2.2.1, μ.2.2.2.2) := hM
          refine lv_aload_n hx hb dX5_turn_60 rfl (lv_at hl 0 rfl) ?_
          refine z_cV (As := []) (rest := []) ⟨hx, hb, hml, hown, hts⟩ (kX5_manyOn l G o ((kwS μ), upd μ.2.1 (10 + 731 * t + (8 : Int)).toNat (1 : Int32), (kwB μ), μ.2.2.2.1, μ.2.2.2.2) (setGF σ t (upd (σ.1.2.2 t.toNat).1 8 xb, (σ.1.2.2 t.toNat).2)) (hR.setv hok ht (k := 8) (by omega) hxb) (setGF_ok hok (on_ok hgo (by omega)))) (cwV 0 hts gX5_turn_X5_manyOn rfl rfl rfl hyX5_manyOn ⟨Nat.le_of_ble_eq_true rfl, Nat.le_of_ble_eq_true rfl⟩) hK hM hM.1 rfl rfl hl.1 rfl (Nat.le_of_ble_eq_true rfl) dX5_turn_61 ⟨Nat.zero_le _, Nat.zero_le _⟩ (fun z17 e17 => ?_)
          have e17 : z17.toInt = onN (setGF σ t (upd (σ.1.2.2 t.toNat).1 8 xb, (σ.1.2.2 t.toNat).2)).2.2 3 := e17
          exact z_riw (v := z17) hx hb hr hlocks (show z17.toInt = a_turn σ t b xb from (by unfold a_turn; (repeat' split) <;> first | rfl | omega | contradiction | assumption)) ⟨_, hM, (by unfold s_turn; rw [if_pos (by omega)]; exact hRel.act hfd (hR.setv hok ht (k := 8) (by omega) hxb) rfl rfl)⟩ hS dX5_turn_64
      · refine lv_bipush (v := (-5 : Int32)) hx hb dX5_turn_33 (by decide) ?_
        exact z_riw (v := (-5 : Int32)) hx hb hr hlocks (show (-5 : Int32).toInt = a_turn σ t b xb from (by unfold a_turn; (repeat' split) <;> first | rfl | omega | contradiction | assumption)) ⟨_, hM, (by unfold s_turn; rw [if_neg (by omega)]; exact hRel)⟩ hS dX5_turn_35
  · refine lv_iconst (v := (-1 : Int32)) hx hb dX5_turn_7 (by decide) ?_
    exact z_riw (v := (-1 : Int32)) hx hb hr hlocks (show (-1 : Int32).toInt = a_turn σ t b xb from (by unfold a_turn; (repeat' split) <;> first | rfl | omega | contradiction | assumption)) ⟨_, hM, (by unfold s_turn; rw [if_neg (by omega)]; exact hRel)⟩ hS dX5_turn_8

abbrev rmX5_setWave : Room := { frames := 4, cells := 0, slots := 0, locals := 90 }
theorem iwX5_setWave_5 : ∀ w ∈ wsX50, w ∈ wsX5_setWave := fun _ h => List.mem_cons_of_mem _ (List.mem_append_right _ h)
theorem flX5_setWave_7 : Cond.fieldLink RX5 7 "SiltedFloatsModel" "s" "[I" ∈ wsX5_setWave := by decide +kernel
theorem flX5_setWave_c53 : Cond.constant RX5 53 (100000) ∈ wsX5_setWave := by decide +kernel
theorem hyX5_setWave : yX5_setWave.cls = RX5 ∧ yX5_setWave.cls ≠ "java/lang/invoke/MethodHandle" ∧ yX5_setWave.cls ≠ "java/lang/invoke/VarHandle" ∧ (parseMethodDescriptor yX5_setWave.desc).map (fun d => d.parameters.length) = some 4 := by decide +kernel
set_option maxHeartbeats 1000000 in
set_option maxRecDepth 100000 in
theorem kX5_setWave (l : Launch) (G : xG) (o : Nat) (μ : MD) (xw : Int32) (w : Int) (e_xw : xw.toInt = w) (xa : Int32) (a : Int) (e_xa : xa.toInt = a) (xb : Int32) (b : Int) (e_xb : xb.toInt = b) (xf : Int32) (f : Int) (e_xf : xf.toInt = f) (σ : FD) (hRel : Rel σ μ) (hfd : fdOk σ) : Met l yX5_setWave wsX5_setWave rmX5_setWave (va_Pc [.ref o, .int xw, .int xa, .int xb, .int xf] (zPre G (fun H => MO G H o μ))) (zW (fun v => v.toInt = a_setWave σ w a b f xa xb xf) (fun H => ∃ n9 : MD, MO G H o n9 ∧ (Rel (s_setWave σ w a b f xa xb xf) n9)) (iv o 5)) 0 0 (iv o 5) := by
  refine z_ofW (cc := cX5_setWave) (maxL := 6) (ret := some .int) (by decide +kernel) rfl (Nat.le_of_ble_eq_true rfl) ?_
  intro p e s m below meth c hx hb hml hr hts hown hlocks hK hP ls hl
  have hM := hP
  have hown : s.vm.findClass RX5 = some m.cls := hown
  have hl : lv_has ls 6 [(0, .ref o), (1, .int xw), (2, .int xa), (3, .int xb), (4, .int xf)] := hl
  have hS : va_S (iv o 5) s.heap s.heap [] := va_S.rf
  have hR := hRel.1
  have hok := hfd.1
  have hn0 := hR.1
  have hok1 := hok.1
  have hW := hR.w
  have hwo := hok.2.1
  have hkn : 0 ≤ (μ.1 2).toInt ∧ (μ.1 2).toInt ≤ 4 := by rw [hRel.2.1.1]; exact hfd.2.2.2.2.1
  refine lv_iload_n hx hb dX5_setWave_0 rfl (lv_at hl 1 rfl) ?_
  refine lv_iconst (v := (0 : Int32)) hx hb dX5_setWave_1 (by decide) ?_
  refine lv_iconst (v := (2 : Int32)) hx hb dX5_setWave_2 (by decide) ?_
  refine z_cS (As := [.int xw, .int (0 : Int32), .int (2 : Int32)]) (rest := []) ⟨hx, hb, hml, hown, hts⟩ (kX5_in l G xw w e_xw (0 : Int32) (0 : Int) kI_0 (2 : Int32) (2 : Int) kI_2) (va_cwS 3 hts gX5_setWave_X5_in rfl rfl rfl hyX5_in ⟨Nat.le_of_ble_eq_true rfl, Nat.le_of_ble_eq_true rfl⟩) hK trivial rfl hl.1 rfl (Nat.le_of_ble_eq_true rfl) dX5_setWave_3 ⟨Nat.zero_le _, Nat.zero_le _⟩ (fun z1 e1 => ?_)
  have e1 : isB z1 ((0 : Int) ≤ w ∧ w ≤ (2 : Int)) := e1
  refine z_ifb_ne (tgt := 11) hx hb e1 dX5_setWave_6 (by decide) (fun c_2 => ?_) (fun c_2 => ?_)
  · have hr9 := hR.2.1 w (by omega) (by omega)
    refine lv_iload_n hx hb dX5_setWave_11 rfl (lv_at hl 2 rfl) ?_
    refine lv_iconst (v := (0 : Int32)) hx hb dX5_setWave_12 (by decide) ?_
    refine lv_sipush (v := (3000 : Int32)) hx hb dX5_setWave_13 (by decide) ?_
    refine z_cS (As := [.int xa, .int (0 : Int32), .int (3000 : Int32)]) (rest := []) ⟨hx, hb, hml, hown, hts⟩ (kX5_in l G xa a e_xa (0 : Int32) (0 : Int) kI_0 (3000 : Int32) (3000 : Int) kI_3000) (va_cwS 3 hts gX5_setWave_X5_in rfl rfl rfl hyX5_in ⟨Nat.le_of_ble_eq_true rfl, Nat.le_of_ble_eq_true rfl⟩) hK trivial rfl hl.1 rfl (Nat.le_of_ble_eq_true rfl) dX5_setWave_16 ⟨Nat.zero_le _, Nat.zero_le _⟩ (fun z3 e3 => ?_)
    have e3 : isB z3 ((0 : Int) ≤ a ∧ a ≤ (3000 : Int)) := e3
    refine z_ifb_eq (tgt := 43) hx hb e3 dX5_setWave_19 (by decide) (fun c_4 => ?_) (fun c_4 => ?_)
    · refine lv_bipush (v := (-2 : Int32)) hx hb dX5_setWave_43 (by decide) ?_
      exact z_riw (v := (-2 : Int32)) hx hb hr hlocks (show (-2 : Int32).toInt = a_setWave σ w a b f xa xb xf from (by unfold a_setWave; (repeat' split) <;> first | rfl | omega | contradiction | assumption)) ⟨_, hM, (by unfold s_setWave; rw [if_neg (by omega)]; exact hRel)⟩ hS dX5_setWave_45
    · refine lv_iload_n hx hb dX5_setWave_22 rfl (lv_at hl 3 rfl) ?_
      refine lv_iconst (v := (2 : Int32)) hx hb dX5_setWave_23 (by decide) ?_
      refine lv_bipush (v := (48 : Int32)) hx hb dX5_setWave_24 (by decide) ?_
      refine z_cS (As := [.int xb, .int (2 : Int32), .int (48 : Int32)]) (rest := []) ⟨hx, hb, hml, hown, hts⟩ (kX5_in l G xb b e_xb (2 : Int32) (2 : Int) kI_2 (48 : Int32) (48 : Int) kI_48) (va_cwS 3 hts gX5_setWave_X5_in rfl rfl rfl hyX5_in ⟨Nat.le_of_ble_eq_true rfl, Nat.le_of_ble_eq_true rfl⟩) hK trivial rfl hl.1 rfl (Nat.le_of_ble_eq_true rfl) dX5_setWave_26 ⟨Nat.zero_le _, Nat.zero_le _⟩ (fun z5 e5 => ?_)
      have e5 : isB z5 ((2 : Int) ≤ b ∧ b ≤ (48 : Int)) := e5
      refine z_ifb_eq (tgt := 43) hx hb e5 dX5_setWave_29 (by decide) (fun c_6 => ?_) (fun c_6 => ?_)
      · refine lv_bipush (v := (-2 : Int32)) hx hb dX5_setWave_43 (by decide) ?_
        exact z_riw (v := (-2 : Int32)) hx hb hr hlocks (show (-2 : Int32).toInt = a_setWave σ w a b f xa xb xf from (by unfold a_setWave; (repeat' split) <;> first | rfl | omega | contradiction | assumption)) ⟨_, hM, (by unfold s_setWave; rw [if_neg (by omega)]; exact hRel)⟩ hS dX5_setWave_45
      · refine lv_iload hx hb dX5_setWave_32 (lv_at hl 4 rfl) ?_
        refine lv_iconst (v := (0 : Int32)) hx hb dX5_setWave_34 (by decide) ?_
        refine lv_bipush (v := (47 : Int32)) hx hb dX5_setWave_35 (by decide) ?_
        refine z_cS (As := [.int xf, .int (0 : Int32), .int (47 : Int32)]) (rest := []) ⟨hx, hb, hml, hown, hts⟩ (kX5_in l G xf f e_xf (0 : Int32) (0 : Int) kI_0 (47 : Int32) (47 : Int) kI_47) (va_cwS 3 hts gX5_setWave_X5_in rfl rfl rfl hyX5_in ⟨Nat.le_of_ble_eq_true rfl, Nat.le_of_ble_eq_true rfl⟩) hK trivial rfl hl.1 rfl (Nat.le_of_ble_eq_true rfl) dX5_setWave_37 ⟨Nat.zero_le _, Nat.zero_le _⟩ (fun z7 e7 => ?_)
        have e7 : isB z7 ((0 : Int) ≤ f ∧ f ≤ (47 : Int)) := e7
        refine z_ifb_ne (tgt := 46) hx hb e7 dX5_setWave_40 (by decide) (fun c_8 => ?_) (fun c_8 => ?_)
        · refine lv_aload_n hx hb dX5_setWave_46 rfl (lv_at hl 0 rfl) ?_
          refine z_get hx hb hts iwX5_setWave_5 hown hK hM.1 rfl 0 (by decide) flX5_setWave_7 rfl (v := .ref (o + 1)) rfl dX5_setWave_47 ?_
          refine lv_iconst (v := (0 : Int32)) hx hb dX5_setWave_50 (by decide) ?_
          refine z_iald (f := μ.2.1) hx hb hK 0 hM.2.1 rfl kI_0 (by omega) dX5_setWave_51 ?_
          have hcl9 : (μ.2.1 (0 : Int).toNat).toInt = σ.1.1.toInt := hn0
          refine z_if_eq (tgt := 58) hx hb hcl9 dX5_setWave_52 (by decide) (fun c_10 => ?_) (fun c_10 => ?_)
          · refine lv_iconst (v := (1 : Int32)) hx hb dX5_setWave_58 (by decide) ?_
            refine lv_iconst (v := (3 : Int32)) hx hb dX5_setWave_59 (by decide) ?_
            refine lv_iload_n hx hb dX5_setWave_60 rfl (lv_at hl 1 rfl) ?_
            refine z_imul hx hb kI_3 e_xw dX5_setWave_61 (by omega) (fun z11 e11 => ?_)
            refine z_iadd hx hb kI_1 e11 dX5_setWave_62 (by omega) (fun z12 e12 => ?_)
            refine lv_istore hx hb dX5_setWave_63 hl (by decide) rfl (fun ls hl => ?_)
            have hl : lv_has ls 6 [(5, .int z12), (0, .ref o), (1, .int xw), (2, .int xa), (3, .int xb), (4, .int xf)] := hl
            refine lv_aload_n hx hb dX5_setWave_65 rfl (lv_at hl 1 rfl) ?_
            refine z_get hx hb hts iwX5_setWave_5 hown hK hM.1 rfl 0 (by decide) flX5_setWave_7 rfl (v := .ref (o + 1)) rfl dX5_setWave_66 ?_
            refine lv_iload hx hb dX5_setWave_69 (lv_at hl 0 rfl) ?_
            refine z_iald (f := μ.2.1) hx hb hK 0 hM.2.1 rfl e12 (by omega) dX5_setWave_71 ?_
            have hcl13 : (μ.2.1 ((1 : Int) + ((3 : Int) * w)).toNat).toInt = (σ.1.2.1 w.toNat 0).toInt := hr9.1
            refine lv_iload_n hx hb dX5_setWave_72 rfl (lv_at hl 3 rfl) ?_
            refine z_icmp_ne (tgt := 106) hx hb hcl13 e_xa dX5_setWave_73 (by decide) (fun c_14 => ?_) (fun c_14 => ?_)
            · refine lv_aload_n hx hb dX5_setWave_106 rfl (lv_at hl 1 rfl) ?_
              refine z_cVv (As := []) (rest := []) ⟨hx, hb, hml, hown, hts⟩ (kX5_know l G o μ (by first | assumption | omega)) (cwV 0 hts gX5_setWave_X5_know rfl rfl rfl hyX5_know ⟨Nat.le_of_ble_eq_true rfl, Nat.le_of_ble_eq_true rfl⟩) hK hM hM.1 rfl rfl hl.1 rfl (Nat.le_of_ble_eq_true rfl) dX5_setWave_107 ⟨Nat.zero_le _, Nat.zero_le _⟩ hS (fun q h => by simp only [iv] at h ⊢; omega) (fun H locs hB hsz hq hS => ?_)
              have hM := hB
              have hM : MO G H o (kwS μ, μ.2.1, kwB μ, μ.2.2.2) := hM
              have hwn : ∀ i, i < 3 → waveOk (newW σ w xa xb xf i) := newW_ok hok.2.1 (by omega) e_xa (by omega) e_xb (by omega) e_xf (by omega)
              have hse := seaZ_b hwn 0
              refine lv_aload_n hx hb dX5_setWave_110 rfl (lv_at hl 1 rfl) ?_
              refine z_get hx hb hts iwX5_setWave_5 hown hK hM.1 rfl 0 (by decide) flX5_setWave_7 rfl (v := .ref (o + 1)) rfl dX5_setWave_111 ?_
              refine lv_iload hx hb dX5_setWave_114 (lv_at hl 0 rfl) ?_
              refine lv_iload_n hx hb dX5_setWave_116 rfl (lv_at hl 3 rfl) ?_
              refine z_iastMs hx hb hK hM hS (by simp only [iv]; omega) e12 (by omega) dX5_setWave_117 (fun H locs hM hsz hq hS => ?_)
              have hM : MO G H o ((kwS μ), upd μ.2.1 ((1 : Int) + ((3 : Int) * w)).toNat xa, (kwB μ), μ.2.2.2.1, μ.2.2.2.2) := hM
              refine lv_aload_n hx hb dX5_setWave_118 rfl (lv_at hl 1 rfl) ?_
              refine z_get hx hb hts iwX5_setWave_5 hown hK hM.1 rfl 0 (by decide) flX5_setWave_7 rfl (v := .ref (o + 1)) rfl dX5_setWave_119 ?_
              refine lv_iload hx hb dX5_setWave_122 (lv_at hl 0 rfl) ?_
              refine lv_iconst (v := (1 : Int32)) hx hb dX5_setWave_124 (by decide) ?_
              refine z_iadd hx hb e12 kI_1 dX5_setWave_125 (by omega) (fun z16 e16 => ?_)
              refine lv_iload_n hx hb dX5_setWave_126 rfl (lv_at hl 4 rfl) ?_
              refine z_iastMs hx hb hK hM hS (by simp only [iv]; omega) e16 (by omega) dX5_setWave_127 (fun H locs hM hsz hq hS => ?_)
              have hM : MO G H o ((kwS μ), upd (upd μ.2.1 ((1 : Int) + ((3 : Int) * w)).toNat xa) (((1 : Int) + ((3 : Int) * w)) + (1 : Int)).toNat xb, (kwB μ), μ.2.2.2.1, μ.2.2.2.2) := hM
              refine lv_aload_n hx hb dX5_setWave_128 rfl (lv_at hl 1 rfl) ?_
              refine z_get hx hb hts iwX5_setWave_5 hown hK hM.1 rfl 0 (by decide) flX5_setWave_7 rfl (v := .ref (o + 1)) rfl dX5_setWave_129 ?_
              refine lv_iload hx hb dX5_setWave_132 (lv_at hl 0 rfl) ?_
              refine lv_iconst (v := (2 : Int32)) hx hb dX5_setWave_134 (by decide) ?_
              refine z_iadd hx hb e12 kI_2 dX5_setWave_135 (by omega) (fun z17 e17 => ?_)
              refine lv_iload hx hb dX5_setWave_136 (lv_at hl 5 rfl) ?_
              refine z_iastMs hx hb hK hM hS (by simp only [iv]; omega) e17 (by omega) dX5_setWave_138 (fun H locs hM hsz hq hS => ?_)
              have hM : MO G H o ((kwS μ), upd (upd (upd μ.2.1 ((1 : Int) + ((3 : Int) * w)).toNat xa) (((1 : Int) + ((3 : Int) * w)) + (1 : Int)).toNat xb) (((1 : Int) + ((3 : Int) * w)) + (2 : Int)).toNat xf, (kwB μ), μ.2.2.2.1, μ.2.2.2.2) := hM
              refine lv_aload_n hx hb dX5_setWave_139 rfl (lv_at hl 1 rfl) ?_
              refine z_cVv (As := []) (rest := []) ⟨hx, hb, hml, hown, hts⟩ (kX5_letFloat l G o ((kwS μ), upd (upd (upd μ.2.1 ((1 : Int) + ((3 : Int) * w)).toNat xa) (((1 : Int) + ((3 : Int) * w)) + (1 : Int)).toNat xb) (((1 : Int) + ((3 : Int) * w)) + (2 : Int)).toNat xf, (kwB μ), μ.2.2.2.1, μ.2.2.2.2) ((σ.1.1, newW σ w xa xb xf, σ.1.2.2) : SD) (hR.wv hok (by omega)) ⟨hok.1, hwn, hok.2.2⟩) (cwV 0 hts gX5_setWave_X5_letFloat rfl rfl rfl hyX5_letFloat ⟨Nat.le_of_ble_eq_true rfl, Nat.le_of_ble_eq_true rfl⟩) hK hM hM.1 rfl rfl hl.1 rfl (Nat.le_of_ble_eq_true rfl) dX5_setWave_140 ⟨Nat.zero_le _, Nat.zero_le _⟩ hS (fun q h => by simp only [iv] at h ⊢; omega) (fun H locs hB hsz hq hS => ?_)
              obtain ⟨m140, hM, hp140⟩ := hB
              have hM : MO G H o m140 := hM
              have hp140 : (Rs (settle ((σ.1.1, newW σ w xa xb xf, σ.1.2.2) : SD)) m140.2.1 ∧ Mf ((kwS μ), upd (upd (upd μ.2.1 ((1 : Int) + ((3 : Int) * w)).toNat xa) (((1 : Int) + ((3 : Int) * w)) + (1 : Int)).toNat xb) (((1 : Int) + ((3 : Int) * w)) + (2 : Int)).toNat xf, (kwB μ), μ.2.2.2.1, μ.2.2.2.2) m140) := hp140
              refine lv_aload_n hx hb dX5_setWave_143 rfl (lv_at hl 1 rfl) ?_
              refine lv_iconst (v := (0 : Int32)) hx hb dX5_setWave_144 (by decide) ?_
              refine z_cV (As := [.int (0 : Int32)]) (rest := []) ⟨hx, hb, hml, hown, hts⟩ (kX5_seaAt l G o m140 (0 : Int32) (0 : Int) kI_0 (settle ((σ.1.1, newW σ w xa xb xf, σ.1.2.2) : SD)) hp140.1.w hwn (by first | assumption | omega)) (cwV 1 hts gX5_setWave_X5_seaAt rfl rfl rfl hyX5_seaAt ⟨Nat.le_of_ble_eq_true rfl, Nat.le_of_ble_eq_true rfl⟩) hK hM hM.1 rfl rfl hl.1 rfl (Nat.le_of_ble_eq_true rfl) dX5_setWave_145 ⟨Nat.zero_le _, Nat.zero_le _⟩ (fun z19 e19 => ?_)
              have e19 : z19.toInt = seaZ (settle ((σ.1.1, newW σ w xa xb xf, σ.1.2.2) : SD)).2.1 (0 : Int) := e19
              have e19 : z19.toInt = seaZ (newW σ w xa xb xf) 0 := by rw [e19]; first | done | rfl
              refine lv_ldc (v := (100000 : Int32)) hx hb hown (hts _ flX5_setWave_c53) dX5_setWave_148 ?_
              refine z_iadd hx hb e19 kI_100000 dX5_setWave_150 (by omega) (fun z20 e20 => ?_)
              exact z_riw (v := z20) hx hb hr hlocks (show z20.toInt = a_setWave σ w a b f xa xb xf from (by unfold a_setWave; (repeat' split) <;> first | rfl | omega | contradiction | assumption)) ⟨_, hM, (by unfold s_setWave; rw [if_pos (by omega)]; exact hRel.act hfd hp140.1 hp140.2.1 hp140.2.2)⟩ hS dX5_setWave_151
            · refine lv_aload_n hx hb dX5_setWave_76 rfl (lv_at hl 1 rfl) ?_
              refine z_get hx hb hts iwX5_setWave_5 hown hK hM.1 rfl 0 (by decide) flX5_setWave_7 rfl (v := .ref (o + 1)) rfl dX5_setWave_77 ?_
              refine lv_iload hx hb dX5_setWave_80 (lv_at hl 0 rfl) ?_
              refine lv_iconst (v := (1 : Int32)) hx hb dX5_setWave_82 (by decide) ?_
              refine z_iadd hx hb e12 kI_1 dX5_setWave_83 (by omega) (fun z21 e21 => ?_)
              refine z_iald (f := μ.2.1) hx hb hK 0 hM.2.1 rfl e21 (by omega) dX5_setWave_84 ?_
              have hcl22 : (μ.2.1 (((1 : Int) + ((3 : Int) * w)) + (1 : Int)).toNat).toInt = (σ.1.2.1 w.toNat 1).toInt := hr9.2.1
              refine lv_iload_n hx hb dX5_setWave_85 rfl (lv_at hl 4 rfl) ?_
              refine z_icmp_ne (tgt := 106) hx hb hcl22 e_xb dX5_setWave_86 (by decide) (fun c_23 => ?_) (fun c_23 => ?_)
              · refine lv_aload_n hx hb dX5_setWave_106 rfl (lv_at hl 1 rfl) ?_
                refine z_cVv (As := []) (rest := []) ⟨hx, hb, hml, hown, hts⟩ (kX5_know l G o μ (by first | assumption | omega)) (cwV 0 hts gX5_setWave_X5_know rfl rfl rfl hyX5_know ⟨Nat.le_of_ble_eq_true rfl, Nat.le_of_ble_eq_true rfl⟩) hK hM hM.1 rfl rfl hl.1 rfl (Nat.le_of_ble_eq_true rfl) dX5_setWave_107 ⟨Nat.zero_le _, Nat.zero_le _⟩ hS (fun q h => by simp only [iv] at h ⊢; omega) (fun H locs hB hsz hq hS => ?_)
                have hM := hB
                have hM : MO G H o (kwS μ, μ.2.1, kwB μ, μ.2.2.2) := hM
                have hwn : ∀ i, i < 3 → waveOk (newW σ w xa xb xf i) := newW_ok hok.2.1 (by omega) e_xa (by omega) e_xb (by omega) e_xf (by omega)
                have hse := seaZ_b hwn 0
                refine lv_aload_n hx hb dX5_setWave_110 rfl (lv_at hl 1 rfl) ?_
                refine z_get hx hb hts iwX5_setWave_5 hown hK hM.1 rfl 0 (by decide) flX5_setWave_7 rfl (v := .ref (o + 1)) rfl dX5_setWave_111 ?_
                refine lv_iload hx hb dX5_setWave_114 (lv_at hl 0 rfl) ?_
                refine lv_iload_n hx hb dX5_setWave_116 rfl (lv_at hl 3 rfl) ?_
                refine z_iastMs hx hb hK hM hS (by simp only [iv]; omega) e12 (by omega) dX5_setWave_117 (fun H locs hM hsz hq hS => ?_)
                have hM : MO G H o ((kwS μ), upd μ.2.1 ((1 : Int) + ((3 : Int) * w)).toNat xa, (kwB μ), μ.2.2.2.1, μ.2.2.2.2) := hM
                refine lv_aload_n hx hb dX5_setWave_118 rfl (lv_at hl 1 rfl) ?_
                refine z_get hx hb hts iwX5_setWave_5 hown hK hM.1 rfl 0 (by decide) flX5_setWave_7 rfl (v := .ref (o + 1)) rfl dX5_setWave_119 ?_
                refine lv_iload hx hb dX5_setWave_122 (lv_at hl 0 rfl) ?_
                refine lv_iconst (v := (1 : Int32)) hx hb dX5_setWave_124 (by decide) ?_
                refine z_iadd hx hb e12 kI_1 dX5_setWave_125 (by omega) (fun z25 e25 => ?_)
                refine lv_iload_n hx hb dX5_setWave_126 rfl (lv_at hl 4 rfl) ?_
                refine z_iastMs hx hb hK hM hS (by simp only [iv]; omega) e25 (by omega) dX5_setWave_127 (fun H locs hM hsz hq hS => ?_)
                have hM : MO G H o ((kwS μ), upd (upd μ.2.1 ((1 : Int) + ((3 : Int) * w)).toNat xa) (((1 : Int) + ((3 : Int) * w)) + (1 : Int)).toNat xb, (kwB μ), μ.2.2.2.1, μ.2.2.2.2) := hM
                refine lv_aload_n hx hb dX5_setWave_128 rfl (lv_at hl 1 rfl) ?_
                refine z_get hx hb hts iwX5_setWave_5 hown hK hM.1 rfl 0 (by decide) flX5_setWave_7 rfl (v := .ref (o + 1)) rfl dX5_setWave_129 ?_
                refine lv_iload hx hb dX5_setWave_132 (lv_at hl 0 rfl) ?_
                refine lv_iconst (v := (2 : Int32)) hx hb dX5_setWave_134 (by decide) ?_
                refine z_iadd hx hb e12 kI_2 dX5_setWave_135 (by omega) (fun z26 e26 => ?_)
                refine lv_iload hx hb dX5_setWave_136 (lv_at hl 5 rfl) ?_
                refine z_iastMs hx hb hK hM hS (by simp only [iv]; omega) e26 (by omega) dX5_setWave_138 (fun H locs hM hsz hq hS => ?_)
                have hM : MO G H o ((kwS μ), upd (upd (upd μ.2.1 ((1 : Int) + ((3 : Int) * w)).toNat xa) (((1 : Int) + ((3 : Int) * w)) + (1 : Int)).toNat xb) (((1 : Int) + ((3 : Int) * w)) + (2 : Int)).toNat xf, (kwB μ), μ.2.2.2.1, μ.2.2.2.2) := hM
                refine lv_aload_n hx hb dX5_setWave_139 rfl (lv_at hl 1 rfl) ?_
                refine z_cVv (As := []) (rest := []) ⟨hx, hb, hml, hown, hts⟩ (kX5_letFloat l G o ((kwS μ), upd (upd (upd μ.2.1 ((1 : Int) + ((3 : Int) * w)).toNat xa) (((1 : Int) + ((3 : Int) * w)) + (1 : Int)).toNat xb) (((1 : Int) + ((3 : Int) * w)) + (2 : Int)).toNat xf, (kwB μ), μ.2.2.2.1, μ.2.2.2.2) ((σ.1.1, newW σ w xa xb xf, σ.1.2.2) : SD) (hR.wv hok (by omega)) ⟨hok.1, hwn, hok.2.2⟩) (cwV 0 hts gX5_setWave_X5_letFloat rfl rfl rfl hyX5_letFloat ⟨Nat.le_of_ble_eq_true rfl, Nat.le_of_ble_eq_true rfl⟩) hK hM hM.1 rfl rfl hl.1 rfl (Nat.le_of_ble_eq_true rfl) dX5_setWave_140 ⟨Nat.zero_le _, Nat.zero_le _⟩ hS (fun q h => by simp only [iv] at h ⊢; omega) (fun H locs hB hsz hq hS => ?_)
                obtain ⟨m140, hM, hp140⟩ := hB
                have hM : MO G H o m140 := hM
                have hp140 : (Rs (settle ((σ.1.1, newW σ w xa xb xf, σ.1.2.2) : SD)) m140.2.1 ∧ Mf ((kwS μ), upd (upd (upd μ.2.1 ((1 : Int) + ((3 : Int) * w)).toNat xa) (((1 : Int) + ((3 : Int) * w)) + (1 : Int)).toNat xb) (((1 : Int) + ((3 : Int) * w)) + (2 : Int)).toNat xf, (kwB μ), μ.2.2.2.1, μ.2.2.2.2) m140) := hp140
                refine lv_aload_n hx hb dX5_setWave_143 rfl (lv_at hl 1 rfl) ?_
                refine lv_iconst (v := (0 : Int32)) hx hb dX5_setWave_144 (by decide) ?_
                refine z_cV (As := [.int (0 : Int32)]) (rest := []) ⟨hx, hb, hml, hown, hts⟩ (kX5_seaAt l G o m140 (0 : Int32) (0 : Int) kI_0 (settle ((σ.1.1, newW σ w xa xb xf, σ.1.2.2) : SD)) hp140.1.w hwn (by first | assumption | omega)) (cwV 1 hts gX5_setWave_X5_seaAt rfl rfl rfl hyX5_seaAt ⟨Nat.le_of_ble_eq_true rfl, Nat.le_of_ble_eq_true rfl⟩) hK hM hM.1 rfl rfl hl.1 rfl (Nat.le_of_ble_eq_true rfl) dX5_setWave_145 ⟨Nat.zero_le _, Nat.zero_le _⟩ (fun z28 e28 => ?_)
                have e28 : z28.toInt = seaZ (settle ((σ.1.1, newW σ w xa xb xf, σ.1.2.2) : SD)).2.1 (0 : Int) := e28
                have e28 : z28.toInt = seaZ (newW σ w xa xb xf) 0 := by rw [e28]; first | done | rfl
                refine lv_ldc (v := (100000 : Int32)) hx hb hown (hts _ flX5_setWave_c53) dX5_setWave_148 ?_
                refine z_iadd hx hb e28 kI_100000 dX5_setWave_150 (by omega) (fun z29 e29 => ?_)
                exact z_riw (v := z29) hx hb hr hlocks (show z29.toInt = a_setWave σ w a b f xa xb xf from (by unfold a_setWave; (repeat' split) <;> first | rfl | omega | contradiction | assumption)) ⟨_, hM, (by unfold s_setWave; rw [if_pos (by omega)]; exact hRel.act hfd hp140.1 hp140.2.1 hp140.2.2)⟩ hS dX5_setWave_151
              · refine lv_aload_n hx hb dX5_setWave_89 rfl (lv_at hl 1 rfl) ?_
                refine z_get hx hb hts iwX5_setWave_5 hown hK hM.1 rfl 0 (by decide) flX5_setWave_7 rfl (v := .ref (o + 1)) rfl dX5_setWave_90 ?_
                refine lv_iload hx hb dX5_setWave_93 (lv_at hl 0 rfl) ?_
                refine lv_iconst (v := (2 : Int32)) hx hb dX5_setWave_95 (by decide) ?_
                refine z_iadd hx hb e12 kI_2 dX5_setWave_96 (by omega) (fun z30 e30 => ?_)
                refine z_iald (f := μ.2.1) hx hb hK 0 hM.2.1 rfl e30 (by omega) dX5_setWave_97 ?_
                have hcl31 : (μ.2.1 (((1 : Int) + ((3 : Int) * w)) + (2 : Int)).toNat).toInt = (σ.1.2.1 w.toNat 2).toInt := hr9.2.2
                refine lv_iload hx hb dX5_setWave_98 (lv_at hl 5 rfl) ?_
                refine z_icmp_ne (tgt := 106) hx hb hcl31 e_xf dX5_setWave_100 (by decide) (fun c_32 => ?_) (fun c_32 => ?_)
                · refine lv_aload_n hx hb dX5_setWave_106 rfl (lv_at hl 1 rfl) ?_
                  refine z_cVv (As := []) (rest := []) ⟨hx, hb, hml, hown, hts⟩ (kX5_know l G o μ (by first | assumption | omega)) (cwV 0 hts gX5_setWave_X5_know rfl rfl rfl hyX5_know ⟨Nat.le_of_ble_eq_true rfl, Nat.le_of_ble_eq_true rfl⟩) hK hM hM.1 rfl rfl hl.1 rfl (Nat.le_of_ble_eq_true rfl) dX5_setWave_107 ⟨Nat.zero_le _, Nat.zero_le _⟩ hS (fun q h => by simp only [iv] at h ⊢; omega) (fun H locs hB hsz hq hS => ?_)
                  have hM := hB
                  have hM : MO G H o (kwS μ, μ.2.1, kwB μ, μ.2.2.2) := hM
                  have hwn : ∀ i, i < 3 → waveOk (newW σ w xa xb xf i) := newW_ok hok.2.1 (by omega) e_xa (by omega) e_xb (by omega) e_xf (by omega)
                  have hse := seaZ_b hwn 0
                  refine lv_aload_n hx hb dX5_setWave_110 rfl (lv_at hl 1 rfl) ?_
                  refine z_get hx hb hts iwX5_setWave_5 hown hK hM.1 rfl 0 (by decide) flX5_setWave_7 rfl (v := .ref (o + 1)) rfl dX5_setWave_111 ?_
                  refine lv_iload hx hb dX5_setWave_114 (lv_at hl 0 rfl) ?_
                  refine lv_iload_n hx hb dX5_setWave_116 rfl (lv_at hl 3 rfl) ?_
                  refine z_iastMs hx hb hK hM hS (by simp only [iv]; omega) e12 (by omega) dX5_setWave_117 (fun H locs hM hsz hq hS => ?_)
                  have hM : MO G H o ((kwS μ), upd μ.2.1 ((1 : Int) + ((3 : Int) * w)).toNat xa, (kwB μ), μ.2.2.2.1, μ.2.2.2.2) := hM
                  refine lv_aload_n hx hb dX5_setWave_118 rfl (lv_at hl 1 rfl) ?_
                  refine z_get hx hb hts iwX5_setWave_5 hown hK hM.1 rfl 0 (by decide) flX5_setWave_7 rfl (v := .ref (o + 1)) rfl dX5_setWave_119 ?_
                  refine lv_iload hx hb dX5_setWave_122 (lv_at hl 0 rfl) ?_
                  refine lv_iconst (v := (1 : Int32)) hx hb dX5_setWave_124 (by decide) ?_
                  refine z_iadd hx hb e12 kI_1 dX5_setWave_125 (by omega) (fun z34 e34 => ?_)
                  refine lv_iload_n hx hb dX5_setWave_126 rfl (lv_at hl 4 rfl) ?_
                  refine z_iastMs hx hb hK hM hS (by simp only [iv]; omega) e34 (by omega) dX5_setWave_127 (fun H locs hM hsz hq hS => ?_)
                  have hM : MO G H o ((kwS μ), upd (upd μ.2.1 ((1 : Int) + ((3 : Int) * w)).toNat xa) (((1 : Int) + ((3 : Int) * w)) + (1 : Int)).toNat xb, (kwB μ), μ.2.2.2.1, μ.2.2.2.2) := hM
                  refine lv_aload_n hx hb dX5_setWave_128 rfl (lv_at hl 1 rfl) ?_
                  refine z_get hx hb hts iwX5_setWave_5 hown hK hM.1 rfl 0 (by decide) flX5_setWave_7 rfl (v := .ref (o + 1)) rfl dX5_setWave_129 ?_
                  refine lv_iload hx hb dX5_setWave_132 (lv_at hl 0 rfl) ?_
                  refine lv_iconst (v := (2 : Int32)) hx hb dX5_setWave_134 (by decide) ?_
                  refine z_iadd hx hb e12 kI_2 dX5_setWave_135 (by omega) (fun z35 e35 => ?_)
                  refine lv_iload hx hb dX5_setWave_136 (lv_at hl 5 rfl) ?_
                  refine z_iastMs hx hb hK hM hS (by simp only [iv]; omega) e35 (by omega) dX5_setWave_138 (fun H locs hM hsz hq hS => ?_)
                  have hM : MO G H o ((kwS μ), upd (upd (upd μ.2.1 ((1 : Int) + ((3 : Int) * w)).toNat xa) (((1 : Int) + ((3 : Int) * w)) + (1 : Int)).toNat xb) (((1 : Int) + ((3 : Int) * w)) + (2 : Int)).toNat xf, (kwB μ), μ.2.2.2.1, μ.2.2.2.2) := hM
                  refine lv_aload_n hx hb dX5_setWave_139 rfl (lv_at hl 1 rfl) ?_
                  refine z_cVv (As := []) (rest := []) ⟨hx, hb, hml, hown, hts⟩ (kX5_letFloat l G o ((kwS μ), upd (upd (upd μ.2.1 ((1 : Int) + ((3 : Int) * w)).toNat xa) (((1 : Int) + ((3 : Int) * w)) + (1 : Int)).toNat xb) (((1 : Int) + ((3 : Int) * w)) + (2 : Int)).toNat xf, (kwB μ), μ.2.2.2.1, μ.2.2.2.2) ((σ.1.1, newW σ w xa xb xf, σ.1.2.2) : SD) (hR.wv hok (by omega)) ⟨hok.1, hwn, hok.2.2⟩) (cwV 0 hts gX5_setWave_X5_letFloat rfl rfl rfl hyX5_letFloat ⟨Nat.le_of_ble_eq_true rfl, Nat.le_of_ble_eq_true rfl⟩) hK hM hM.1 rfl rfl hl.1 rfl (Nat.le_of_ble_eq_true rfl) dX5_setWave_140 ⟨Nat.zero_le _, Nat.zero_le _⟩ hS (fun q h => by simp only [iv] at h ⊢; omega) (fun H locs hB hsz hq hS => ?_)
                  obtain ⟨m140, hM, hp140⟩ := hB
                  have hM : MO G H o m140 := hM
                  have hp140 : (Rs (settle ((σ.1.1, newW σ w xa xb xf, σ.1.2.2) : SD)) m140.2.1 ∧ Mf ((kwS μ), upd (upd (upd μ.2.1 ((1 : Int) + ((3 : Int) * w)).toNat xa) (((1 : Int) + ((3 : Int) * w)) + (1 : Int)).toNat xb) (((1 : Int) + ((3 : Int) * w)) + (2 : Int)).toNat xf, (kwB μ), μ.2.2.2.1, μ.2.2.2.2) m140) := hp140
                  refine lv_aload_n hx hb dX5_setWave_143 rfl (lv_at hl 1 rfl) ?_
                  refine lv_iconst (v := (0 : Int32)) hx hb dX5_setWave_144 (by decide) ?_
                  refine z_cV (As := [.int (0 : Int32)]) (rest := []) ⟨hx, hb, hml, hown, hts⟩ (kX5_seaAt l G o m140 (0 : Int32) (0 : Int) kI_0 (settle ((σ.1.1, newW σ w xa xb xf, σ.1.2.2) : SD)) hp140.1.w hwn (by first | assumption | omega)) (cwV 1 hts gX5_setWave_X5_seaAt rfl rfl rfl hyX5_seaAt ⟨Nat.le_of_ble_eq_true rfl, Nat.le_of_ble_eq_true rfl⟩) hK hM hM.1 rfl rfl hl.1 rfl (Nat.le_of_ble_eq_true rfl) dX5_setWave_145 ⟨Nat.zero_le _, Nat.zero_le _⟩ (fun z37 e37 => ?_)
                  have e37 : z37.toInt = seaZ (settle ((σ.1.1, newW σ w xa xb xf, σ.1.2.2) : SD)).2.1 (0 : Int) := e37
                  have e37 : z37.toInt = seaZ (newW σ w xa xb xf) 0 := by rw [e37]; first | done | rfl
                  refine lv_ldc (v := (100000 : Int32)) hx hb hown (hts _ flX5_setWave_c53) dX5_setWave_148 ?_
                  refine z_iadd hx hb e37 kI_100000 dX5_setWave_150 (by omega) (fun z38 e38 => ?_)
                  exact z_riw (v := z38) hx hb hr hlocks (show z38.toInt = a_setWave σ w a b f xa xb xf from (by unfold a_setWave; (repeat' split) <;> first | rfl | omega | contradiction | assumption)) ⟨_, hM, (by unfold s_setWave; rw [if_pos (by omega)]; exact hRel.act hfd hp140.1 hp140.2.1 hp140.2.2)⟩ hS dX5_setWave_151
                · refine lv_bipush (v := (-5 : Int32)) hx hb dX5_setWave_103 (by decide) ?_
                  exact z_riw (v := (-5 : Int32)) hx hb hr hlocks (show (-5 : Int32).toInt = a_setWave σ w a b f xa xb xf from (by unfold a_setWave; (repeat' split) <;> first | rfl | omega | contradiction | assumption)) ⟨_, hM, (by unfold s_setWave; rw [if_neg (by omega)]; exact hRel)⟩ hS dX5_setWave_105
          · refine lv_bipush (v := (-4 : Int32)) hx hb dX5_setWave_55 (by decide) ?_
            exact z_riw (v := (-4 : Int32)) hx hb hr hlocks (show (-4 : Int32).toInt = a_setWave σ w a b f xa xb xf from (by unfold a_setWave; (repeat' split) <;> first | rfl | omega | contradiction | assumption)) ⟨_, hM, (by unfold s_setWave; rw [if_neg (by omega)]; exact hRel)⟩ hS dX5_setWave_57
        · refine lv_bipush (v := (-2 : Int32)) hx hb dX5_setWave_43 (by decide) ?_
          exact z_riw (v := (-2 : Int32)) hx hb hr hlocks (show (-2 : Int32).toInt = a_setWave σ w a b f xa xb xf from (by unfold a_setWave; (repeat' split) <;> first | rfl | omega | contradiction | assumption)) ⟨_, hM, (by unfold s_setWave; rw [if_neg (by omega)]; exact hRel)⟩ hS dX5_setWave_45
  · refine lv_iconst (v := (-1 : Int32)) hx hb dX5_setWave_9 (by decide) ?_
    exact z_riw (v := (-1 : Int32)) hx hb hr hlocks (show (-1 : Int32).toInt = a_setWave σ w a b f xa xb xf from (by unfold a_setWave; (repeat' split) <;> first | rfl | omega | contradiction | assumption)) ⟨_, hM, (by unfold s_setWave; rw [if_neg (by omega)]; exact hRel)⟩ hS dX5_setWave_10

abbrev rmX5_setStation : Room := { frames := 3, cells := 0, slots := 0, locals := 69 }
theorem iwX5_setStation_5 : ∀ w ∈ wsX50, w ∈ wsX5_setStation := fun _ h => List.mem_cons_of_mem _ (List.mem_append_right _ h)
theorem flX5_setStation_7 : Cond.fieldLink RX5 7 "SiltedFloatsModel" "s" "[I" ∈ wsX5_setStation := by decide +kernel
theorem flX5_setStation_c53 : Cond.constant RX5 53 (100000) ∈ wsX5_setStation := by decide +kernel
theorem hyX5_setStation : yX5_setStation.cls = RX5 ∧ yX5_setStation.cls ≠ "java/lang/invoke/MethodHandle" ∧ yX5_setStation.cls ≠ "java/lang/invoke/VarHandle" ∧ (parseMethodDescriptor yX5_setStation.desc).map (fun d => d.parameters.length) = some 4 := by decide +kernel
set_option maxHeartbeats 1000000 in
set_option maxRecDepth 100000 in
theorem kX5_setStation (l : Launch) (G : xG) (o : Nat) (μ : MD) (x : Int32) (t : Int) (e_x : x.toInt = t) (xa : Int32) (a : Int) (e_xa : xa.toInt = a) (xb : Int32) (b : Int) (e_xb : xb.toInt = b) (xf : Int32) (f : Int) (e_xf : xf.toInt = f) (σ : FD) (hRel : Rel σ μ) (hfd : fdOk σ) : Met l yX5_setStation wsX5_setStation rmX5_setStation (va_Pc [.ref o, .int x, .int xa, .int xb, .int xf] (zPre G (fun H => MO G H o μ))) (zW (fun v => v.toInt = a_setStation σ t a b f xa xb xf) (fun H => ∃ n9 : MD, MO G H o n9 ∧ (Rel (s_setStation σ t a b f xa xb xf) n9)) (iv o 5)) 0 0 (iv o 5) := by
  refine z_ofW (cc := cX5_setStation) (maxL := 5) (ret := some .int) (by decide +kernel) rfl (Nat.le_of_ble_eq_true rfl) ?_
  intro p e s m below meth c hx hb hml hr hts hown hlocks hK hP ls hl
  have hM := hP
  have hown : s.vm.findClass RX5 = some m.cls := hown
  have hl : lv_has ls 5 [(0, .ref o), (1, .int x), (2, .int xa), (3, .int xb), (4, .int xf)] := hl
  have hS : va_S (iv o 5) s.heap s.heap [] := va_S.rf
  have hR := hRel.1
  have hok := hfd.1
  have hn0 := hR.1
  have hok1 := hok.1
  have hW := hR.w
  have hwo := hok.2.1
  have hkn : 0 ≤ (μ.1 2).toInt ∧ (μ.1 2).toInt ≤ 4 := by rw [hRel.2.1.1]; exact hfd.2.2.2.2.1
  refine lv_iload_n hx hb dX5_setStation_0 rfl (lv_at hl 1 rfl) ?_
  refine z_cS (As := [.int x]) (rest := []) ⟨hx, hb, hml, hown, hts⟩ (kX5_isStation l G x t e_x) (va_cwS 1 hts gX5_setStation_X5_isStation rfl rfl rfl hyX5_isStation ⟨Nat.le_of_ble_eq_true rfl, Nat.le_of_ble_eq_true rfl⟩) hK trivial rfl hl.1 rfl (Nat.le_of_ble_eq_true rfl) dX5_setStation_1 ⟨Nat.zero_le _, Nat.zero_le _⟩ (fun z1 e1 => ?_)
  have e1 : isB z1 (0 ≤ t ∧ t < 3) := e1
  refine z_ifb_ne (tgt := 9) hx hb e1 dX5_setStation_4 (by decide) (fun c_2 => ?_) (fun c_2 => ?_)
  · have ht : 0 ≤ t ∧ t < 3 := c_2
    have hgo := hok.2.2 t.toNat (by omega)
    refine lv_iload_n hx hb dX5_setStation_9 rfl (lv_at hl 2 rfl) ?_
    refine lv_iconst (v := (0 : Int32)) hx hb dX5_setStation_10 (by decide) ?_
    refine lv_bipush (v := (12 : Int32)) hx hb dX5_setStation_11 (by decide) ?_
    refine z_cS (As := [.int xa, .int (0 : Int32), .int (12 : Int32)]) (rest := []) ⟨hx, hb, hml, hown, hts⟩ (kX5_in l G xa a e_xa (0 : Int32) (0 : Int) kI_0 (12 : Int32) (12 : Int) kI_12) (va_cwS 3 hts gX5_setStation_X5_in rfl rfl rfl hyX5_in ⟨Nat.le_of_ble_eq_true rfl, Nat.le_of_ble_eq_true rfl⟩) hK trivial rfl hl.1 rfl (Nat.le_of_ble_eq_true rfl) dX5_setStation_13 ⟨Nat.zero_le _, Nat.zero_le _⟩ (fun z3 e3 => ?_)
    have e3 : isB z3 ((0 : Int) ≤ a ∧ a ≤ (12 : Int)) := e3
    refine z_ifb_eq (tgt := 45) hx hb e3 dX5_setStation_16 (by decide) (fun c_4 => ?_) (fun c_4 => ?_)
    · refine lv_bipush (v := (-2 : Int32)) hx hb dX5_setStation_45 (by decide) ?_
      exact z_riw (v := (-2 : Int32)) hx hb hr hlocks (show (-2 : Int32).toInt = a_setStation σ t a b f xa xb xf from (by unfold a_setStation; (repeat' split) <;> first | rfl | omega | contradiction | assumption)) ⟨_, hM, (by unfold s_setStation; rw [if_neg (by omega)]; exact hRel)⟩ hS dX5_setStation_47
    · refine lv_iload_n hx hb dX5_setStation_19 rfl (lv_at hl 3 rfl) ?_
      refine lv_bipush (v := (10 : Int32)) hx hb dX5_setStation_20 (by decide) ?_
      refine lv_sipush (v := (200 : Int32)) hx hb dX5_setStation_22 (by decide) ?_
      refine z_cS (As := [.int xb, .int (10 : Int32), .int (200 : Int32)]) (rest := []) ⟨hx, hb, hml, hown, hts⟩ (kX5_in l G xb b e_xb (10 : Int32) (10 : Int) kI_10 (200 : Int32) (200 : Int) kI_200) (va_cwS 3 hts gX5_setStation_X5_in rfl rfl rfl hyX5_in ⟨Nat.le_of_ble_eq_true rfl, Nat.le_of_ble_eq_true rfl⟩) hK trivial rfl hl.1 rfl (Nat.le_of_ble_eq_true rfl) dX5_setStation_25 ⟨Nat.zero_le _, Nat.zero_le _⟩ (fun z5 e5 => ?_)
      have e5 : isB z5 ((10 : Int) ≤ b ∧ b ≤ (200 : Int)) := e5
      refine z_ifb_eq (tgt := 45) hx hb e5 dX5_setStation_28 (by decide) (fun c_6 => ?_) (fun c_6 => ?_)
      · refine lv_bipush (v := (-2 : Int32)) hx hb dX5_setStation_45 (by decide) ?_
        exact z_riw (v := (-2 : Int32)) hx hb hr hlocks (show (-2 : Int32).toInt = a_setStation σ t a b f xa xb xf from (by unfold a_setStation; (repeat' split) <;> first | rfl | omega | contradiction | assumption)) ⟨_, hM, (by unfold s_setStation; rw [if_neg (by omega)]; exact hRel)⟩ hS dX5_setStation_47
      · refine lv_iload hx hb dX5_setStation_31 (lv_at hl 4 rfl) ?_
        refine lv_sipush (v := (-2000 : Int32)) hx hb dX5_setStation_33 (by decide) ?_
        refine lv_sipush (v := (2000 : Int32)) hx hb dX5_setStation_36 (by decide) ?_
        refine z_cS (As := [.int xf, .int (-2000 : Int32), .int (2000 : Int32)]) (rest := []) ⟨hx, hb, hml, hown, hts⟩ (kX5_in l G xf f e_xf (-2000 : Int32) (-2000 : Int) kI_m2000 (2000 : Int32) (2000 : Int) kI_2000) (va_cwS 3 hts gX5_setStation_X5_in rfl rfl rfl hyX5_in ⟨Nat.le_of_ble_eq_true rfl, Nat.le_of_ble_eq_true rfl⟩) hK trivial rfl hl.1 rfl (Nat.le_of_ble_eq_true rfl) dX5_setStation_39 ⟨Nat.zero_le _, Nat.zero_le _⟩ (fun z7 e7 => ?_)
        have e7 : isB z7 ((-2000 : Int) ≤ f ∧ f ≤ (2000 : Int)) := e7
        refine z_ifb_ne (tgt := 48) hx hb e7 dX5_setStation_42 (by decide) (fun c_8 => ?_) (fun c_8 => ?_)
        · refine lv_aload_n hx hb dX5_setStation_48 rfl (lv_at hl 0 rfl) ?_
          refine z_get hx hb hts iwX5_setStation_5 hown hK hM.1 rfl 0 (by decide) flX5_setStation_7 rfl (v := .ref (o + 1)) rfl dX5_setStation_49 ?_
          refine lv_iconst (v := (0 : Int32)) hx hb dX5_setStation_52 (by decide) ?_
          refine z_iald (f := μ.2.1) hx hb hK 0 hM.2.1 rfl kI_0 (by omega) dX5_setStation_53 ?_
          have hcl9 : (μ.2.1 (0 : Int).toNat).toInt = σ.1.1.toInt := hn0
          refine z_if_eq (tgt := 60) hx hb hcl9 dX5_setStation_54 (by decide) (fun c_10 => ?_) (fun c_10 => ?_)
          · refine lv_aload_n hx hb dX5_setStation_60 rfl (lv_at hl 0 rfl) ?_
            refine z_get hx hb hts iwX5_setStation_5 hown hK hM.1 rfl 0 (by decide) flX5_setStation_7 rfl (v := .ref (o + 1)) rfl dX5_setStation_61 ?_
            refine lv_iload_n hx hb dX5_setStation_64 rfl (lv_at hl 1 rfl) ?_
            refine lv_iconst (v := (0 : Int32)) hx hb dX5_setStation_65 (by decide) ?_
            refine z_cS (As := [.int x, .int (0 : Int32)]) (rest := [.ref (o + 1)]) ⟨hx, hb, hml, hown, hts⟩ (kX5_of l G x t e_x (0 : Int32) (0 : Int) kI_0 (by first | assumption | omega)) (va_cwS 2 hts gX5_setStation_X5_of rfl rfl rfl hyX5_of ⟨Nat.le_of_ble_eq_true rfl, Nat.le_of_ble_eq_true rfl⟩) hK trivial rfl hl.1 rfl (Nat.le_of_ble_eq_true rfl) dX5_setStation_66 ⟨Nat.zero_le _, Nat.zero_le _⟩ (fun z11 e11 => ?_)
            have e11 : z11.toInt = 10 + 731 * t + (0 : Int) := e11
            refine z_iald (f := μ.2.1) hx hb hK 0 hM.2.1 rfl e11 (by omega) dX5_setStation_69 ?_
            have hcl12 : (μ.2.1 (10 + 731 * t + (0 : Int)).toNat).toInt = ((σ.1.2.2 t.toNat).1 0).toInt := (hR.sc ht 0 (by omega))
            refine lv_iload_n hx hb dX5_setStation_70 rfl (lv_at hl 2 rfl) ?_
            refine z_icmp_ne (tgt := 106) hx hb hcl12 e_xa dX5_setStation_71 (by decide) (fun c_13 => ?_) (fun c_13 => ?_)
            · refine lv_aload_n hx hb dX5_setStation_106 rfl (lv_at hl 0 rfl) ?_
              refine z_cVv (As := []) (rest := []) ⟨hx, hb, hml, hown, hts⟩ (kX5_know l G o μ (by first | assumption | omega)) (cwV 0 hts gX5_setStation_X5_know rfl rfl rfl hyX5_know ⟨Nat.le_of_ble_eq_true rfl, Nat.le_of_ble_eq_true rfl⟩) hK hM hM.1 rfl rfl hl.1 rfl (Nat.le_of_ble_eq_true rfl) dX5_setStation_107 ⟨Nat.zero_le _, Nat.zero_le _⟩ hS (fun q h => by simp only [iv] at h ⊢; omega) (fun H locs hB hsz hq hS => ?_)
              have hM := hB
              have hM : MO G H o (kwS μ, μ.2.1, kwB μ, μ.2.2.2) := hM
              have hgn : staOk (newG σ t xa xb xf) := newG_ok e_xa (by omega) e_xb (by omega) e_xf (by omega)
              have hwb := watZ_b (d := newG σ t xa xb xf) hwo hgn 0
              refine lv_aload_n hx hb dX5_setStation_110 rfl (lv_at hl 0 rfl) ?_
              refine z_get hx hb hts iwX5_setStation_5 hown hK hM.1 rfl 0 (by decide) flX5_setStation_7 rfl (v := .ref (o + 1)) rfl dX5_setStation_111 ?_
              refine lv_iload_n hx hb dX5_setStation_114 rfl (lv_at hl 1 rfl) ?_
              refine lv_iconst (v := (0 : Int32)) hx hb dX5_setStation_115 (by decide) ?_
              refine z_cS (As := [.int x, .int (0 : Int32)]) (rest := [.ref (o + 1)]) ⟨hx, hb, hml, hown, hts⟩ (kX5_of l G x t e_x (0 : Int32) (0 : Int) kI_0 (by first | assumption | omega)) (va_cwS 2 hts gX5_setStation_X5_of rfl rfl rfl hyX5_of ⟨Nat.le_of_ble_eq_true rfl, Nat.le_of_ble_eq_true rfl⟩) hK trivial rfl hl.1 rfl (Nat.le_of_ble_eq_true rfl) dX5_setStation_116 ⟨Nat.zero_le _, Nat.zero_le _⟩ (fun z15 e15 => ?_)
              have e15 : z15.toInt = 10 + 731 * t + (0 : Int) := e15
              refine lv_iload_n hx hb dX5_setStation_119 rfl (lv_at hl 2 rfl) ?_
              refine z_iastMs hx hb hK hM hS (by simp only [iv]; omega) e15 (by omega) dX5_setStation_120 (fun H locs hM hsz hq hS => ?_)
              have hM : MO G H o ((kwS μ), upd μ.2.1 (10 + 731 * t + (0 : Int)).toNat xa, (kwB μ), μ.2.2.2.1, μ.2.2.2.2) := hM
              refine lv_aload_n hx hb dX5_setStation_121 rfl (lv_at hl 0 rfl) ?_
              refine z_get hx hb hts iwX5_setStation_5 hown hK hM.1 rfl 0 (by decide) flX5_setStation_7 rfl (v := .ref (o + 1)) rfl dX5_setStation_122 ?_
              refine lv_iload_n hx hb dX5_setStation_125 rfl (lv_at hl 1 rfl) ?_
              refine lv_iconst (v := (1 : Int32)) hx hb dX5_setStation_126 (by decide) ?_
              refine z_cS (As := [.int x, .int (1 : Int32)]) (rest := [.ref (o + 1)]) ⟨hx, hb, hml, hown, hts⟩ (kX5_of l G x t e_x (1 : Int32) (1 : Int) kI_1 (by first | assumption | omega)) (va_cwS 2 hts gX5_setStation_X5_of rfl rfl rfl hyX5_of ⟨Nat.le_of_ble_eq_true rfl, Nat.le_of_ble_eq_true rfl⟩) hK trivial rfl hl.1 rfl (Nat.le_of_ble_eq_true rfl) dX5_setStation_127 ⟨Nat.zero_le _, Nat.zero_le _⟩ (fun z16 e16 => ?_)
              have e16 : z16.toInt = 10 + 731 * t + (1 : Int) := e16
              refine lv_iload_n hx hb dX5_setStation_130 rfl (lv_at hl 3 rfl) ?_
              refine z_iastMs hx hb hK hM hS (by simp only [iv]; omega) e16 (by omega) dX5_setStation_131 (fun H locs hM hsz hq hS => ?_)
              have hM : MO G H o ((kwS μ), upd (upd μ.2.1 (10 + 731 * t + (0 : Int)).toNat xa) (10 + 731 * t + (1 : Int)).toNat xb, (kwB μ), μ.2.2.2.1, μ.2.2.2.2) := hM
              refine lv_aload_n hx hb dX5_setStation_132 rfl (lv_at hl 0 rfl) ?_
              refine z_get hx hb hts iwX5_setStation_5 hown hK hM.1 rfl 0 (by decide) flX5_setStation_7 rfl (v := .ref (o + 1)) rfl dX5_setStation_133 ?_
              refine lv_iload_n hx hb dX5_setStation_136 rfl (lv_at hl 1 rfl) ?_
              refine lv_iconst (v := (2 : Int32)) hx hb dX5_setStation_137 (by decide) ?_
              refine z_cS (As := [.int x, .int (2 : Int32)]) (rest := [.ref (o + 1)]) ⟨hx, hb, hml, hown, hts⟩ (kX5_of l G x t e_x (2 : Int32) (2 : Int) kI_2 (by first | assumption | omega)) (va_cwS 2 hts gX5_setStation_X5_of rfl rfl rfl hyX5_of ⟨Nat.le_of_ble_eq_true rfl, Nat.le_of_ble_eq_true rfl⟩) hK trivial rfl hl.1 rfl (Nat.le_of_ble_eq_true rfl) dX5_setStation_138 ⟨Nat.zero_le _, Nat.zero_le _⟩ (fun z17 e17 => ?_)
              have e17 : z17.toInt = 10 + 731 * t + (2 : Int) := e17
              refine lv_iload hx hb dX5_setStation_141 (lv_at hl 4 rfl) ?_
              refine z_iastMs hx hb hK hM hS (by simp only [iv]; omega) e17 (by omega) dX5_setStation_143 (fun H locs hM hsz hq hS => ?_)
              have hM : MO G H o ((kwS μ), upd (upd (upd μ.2.1 (10 + 731 * t + (0 : Int)).toNat xa) (10 + 731 * t + (1 : Int)).toNat xb) (10 + 731 * t + (2 : Int)).toNat xf, (kwB μ), μ.2.2.2.1, μ.2.2.2.2) := hM
              refine lv_aload_n hx hb dX5_setStation_144 rfl (lv_at hl 0 rfl) ?_
              refine z_get hx hb hts iwX5_setStation_5 hown hK hM.1 rfl 0 (by decide) flX5_setStation_7 rfl (v := .ref (o + 1)) rfl dX5_setStation_145 ?_
              refine lv_iload_n hx hb dX5_setStation_148 rfl (lv_at hl 1 rfl) ?_
              refine lv_iconst (v := (3 : Int32)) hx hb dX5_setStation_149 (by decide) ?_
              refine z_cS (As := [.int x, .int (3 : Int32)]) (rest := [.ref (o + 1)]) ⟨hx, hb, hml, hown, hts⟩ (kX5_of l G x t e_x (3 : Int32) (3 : Int) kI_3 (by first | assumption | omega)) (va_cwS 2 hts gX5_setStation_X5_of rfl rfl rfl hyX5_of ⟨Nat.le_of_ble_eq_true rfl, Nat.le_of_ble_eq_true rfl⟩) hK trivial rfl hl.1 rfl (Nat.le_of_ble_eq_true rfl) dX5_setStation_150 ⟨Nat.zero_le _, Nat.zero_le _⟩ (fun z18 e18 => ?_)
              have e18 : z18.toInt = 10 + 731 * t + (3 : Int) := e18
              refine lv_aload_n hx hb dX5_setStation_153 rfl (lv_at hl 0 rfl) ?_
              refine lv_iload_n hx hb dX5_setStation_154 rfl (lv_at hl 1 rfl) ?_
              refine lv_iconst (v := (0 : Int32)) hx hb dX5_setStation_155 (by decide) ?_
              refine z_cV (As := [.int x, .int (0 : Int32)]) (rest := [.int z18, .ref (o + 1)]) ⟨hx, hb, hml, hown, hts⟩ (kX5_outsideAt l G o ((kwS μ), upd (upd (upd μ.2.1 (10 + 731 * t + (0 : Int)).toNat xa) (10 + 731 * t + (1 : Int)).toNat xb) (10 + 731 * t + (2 : Int)).toNat xf, (kwB μ), μ.2.2.2.1, μ.2.2.2.2) x t e_x (0 : Int32) (0 : Int) kI_0 (setGF σ t (newG σ t xa xb xf)) (hR.set3 hok ht).w (by first | assumption | omega) (by first | assumption | omega) (by show staOk (va_up σ.1.2.2 t.toNat _ t.toNat); rw [va_up_self]; exact hgn) (by first | assumption | omega)) (cwV 2 hts gX5_setStation_X5_outsideAt rfl rfl rfl hyX5_outsideAt ⟨Nat.le_of_ble_eq_true rfl, Nat.le_of_ble_eq_true rfl⟩) hK hM hM.1 rfl rfl hl.1 rfl (Nat.le_of_ble_eq_true rfl) dX5_setStation_156 ⟨Nat.zero_le _, Nat.zero_le _⟩ (fun z19 e19 => ?_)
              have e19 : z19.toInt = watZ (setGF σ t (newG σ t xa xb xf)).2.1 ((setGF σ t (newG σ t xa xb xf)).2.2 t.toNat) (0 : Int) := e19
              have e19 : z19.toInt = watZ σ.1.2.1 (newG σ t xa xb xf) 0 := by rw [e19]; show watZ σ.1.2.1 (va_up _ _ _ _) 0 = _; rw [va_up_self]
              refine z_iastMs hx hb hK hM hS (by simp only [iv]; omega) e18 (by omega) dX5_setStation_159 (fun H locs hM hsz hq hS => ?_)
              have hM : MO G H o ((kwS μ), upd (upd (upd (upd μ.2.1 (10 + 731 * t + (0 : Int)).toNat xa) (10 + 731 * t + (1 : Int)).toNat xb) (10 + 731 * t + (2 : Int)).toNat xf) (10 + 731 * t + (3 : Int)).toNat z19, (kwB μ), μ.2.2.2.1, μ.2.2.2.2) := hM
              refine lv_aload_n hx hb dX5_setStation_160 rfl (lv_at hl 0 rfl) ?_
              refine z_get hx hb hts iwX5_setStation_5 hown hK hM.1 rfl 0 (by decide) flX5_setStation_7 rfl (v := .ref (o + 1)) rfl dX5_setStation_161 ?_
              refine lv_iload_n hx hb dX5_setStation_164 rfl (lv_at hl 1 rfl) ?_
              refine lv_iconst (v := (3 : Int32)) hx hb dX5_setStation_165 (by decide) ?_
              refine z_cS (As := [.int x, .int (3 : Int32)]) (rest := [.ref (o + 1)]) ⟨hx, hb, hml, hown, hts⟩ (kX5_of l G x t e_x (3 : Int32) (3 : Int) kI_3 (by first | assumption | omega)) (va_cwS 2 hts gX5_setStation_X5_of rfl rfl rfl hyX5_of ⟨Nat.le_of_ble_eq_true rfl, Nat.le_of_ble_eq_true rfl⟩) hK trivial rfl hl.1 rfl (Nat.le_of_ble_eq_true rfl) dX5_setStation_166 ⟨Nat.zero_le _, Nat.zero_le _⟩ (fun z20 e20 => ?_)
              have e20 : z20.toInt = 10 + 731 * t + (3 : Int) := e20
              refine z_iald (f := upd (upd (upd (upd μ.2.1 (10 + 731 * t + (0 : Int)).toNat xa) (10 + 731 * t + (1 : Int)).toNat xb) (10 + 731 * t + (2 : Int)).toNat xf) (10 + 731 * t + (3 : Int)).toNat z19) hx hb hK 0 hM.2.1 rfl e20 (by omega) dX5_setStation_169 ?_
              have hcl21 : ((upd (upd (upd (upd μ.2.1 (10 + 731 * t + (0 : Int)).toNat xa) (10 + 731 * t + (1 : Int)).toNat xb) (10 + 731 * t + (2 : Int)).toNat xf) (10 + 731 * t + (3 : Int)).toNat z19) (10 + 731 * t + (3 : Int)).toNat).toInt = watZ σ.1.2.1 (newG σ t xa xb xf) 0 := (by rw [upd_at]; assumption)
              refine lv_ldc (v := (100000 : Int32)) hx hb hown (hts _ flX5_setStation_c53) dX5_setStation_170 ?_
              refine z_iadd hx hb hcl21 kI_100000 dX5_setStation_172 (by omega) (fun z22 e22 => ?_)
              exact z_riw (v := z22) hx hb hr hlocks (show z22.toInt = a_setStation σ t a b f xa xb xf from (by unfold a_setStation; (repeat' split) <;> first | rfl | omega | contradiction | assumption)) ⟨_, hM, (by unfold s_setStation; rw [if_pos (by omega)]; exact hRel.act hfd (hR.sta hok ht hgn (by assumption)) rfl rfl)⟩ hS dX5_setStation_173
            · refine lv_aload_n hx hb dX5_setStation_74 rfl (lv_at hl 0 rfl) ?_
              refine z_get hx hb hts iwX5_setStation_5 hown hK hM.1 rfl 0 (by decide) flX5_setStation_7 rfl (v := .ref (o + 1)) rfl dX5_setStation_75 ?_
              refine lv_iload_n hx hb dX5_setStation_78 rfl (lv_at hl 1 rfl) ?_
              refine lv_iconst (v := (1 : Int32)) hx hb dX5_setStation_79 (by decide) ?_
              refine z_cS (As := [.int x, .int (1 : Int32)]) (rest := [.ref (o + 1)]) ⟨hx, hb, hml, hown, hts⟩ (kX5_of l G x t e_x (1 : Int32) (1 : Int) kI_1 (by first | assumption | omega)) (va_cwS 2 hts gX5_setStation_X5_of rfl rfl rfl hyX5_of ⟨Nat.le_of_ble_eq_true rfl, Nat.le_of_ble_eq_true rfl⟩) hK trivial rfl hl.1 rfl (Nat.le_of_ble_eq_true rfl) dX5_setStation_80 ⟨Nat.zero_le _, Nat.zero_le _⟩ (fun z23 e23 => ?_)
              have e23 : z23.toInt = 10 + 731 * t + (1 : Int) := e23
              refine z_iald (f := μ.2.1) hx hb hK 0 hM.2.1 rfl e23 (by omega) dX5_setStation_83 ?_
              have hcl24 : (μ.2.1 (10 + 731 * t + (1 : Int)).toNat).toInt = ((σ.1.2.2 t.toNat).1 1).toInt := (hR.sc ht 1 (by omega))
              refine lv_iload_n hx hb dX5_setStation_84 rfl (lv_at hl 3 rfl) ?_
              refine z_icmp_ne (tgt := 106) hx hb hcl24 e_xb dX5_setStation_85 (by decide) (fun c_25 => ?_) (fun c_25 => ?_)
              · refine lv_aload_n hx hb dX5_setStation_106 rfl (lv_at hl 0 rfl) ?_
                refine z_cVv (As := []) (rest := []) ⟨hx, hb, hml, hown, hts⟩ (kX5_know l G o μ (by first | assumption | omega)) (cwV 0 hts gX5_setStation_X5_know rfl rfl rfl hyX5_know ⟨Nat.le_of_ble_eq_true rfl, Nat.le_of_ble_eq_true rfl⟩) hK hM hM.1 rfl rfl hl.1 rfl (Nat.le_of_ble_eq_true rfl) dX5_setStation_107 ⟨Nat.zero_le _, Nat.zero_le _⟩ hS (fun q h => by simp only [iv] at h ⊢; omega) (fun H locs hB hsz hq hS => ?_)
                have hM := hB
                have hM : MO G H o (kwS μ, μ.2.1, kwB μ, μ.2.2.2) := hM
                have hgn : staOk (newG σ t xa xb xf) := newG_ok e_xa (by omega) e_xb (by omega) e_xf (by omega)
                have hwb := watZ_b (d := newG σ t xa xb xf) hwo hgn 0
                refine lv_aload_n hx hb dX5_setStation_110 rfl (lv_at hl 0 rfl) ?_
                refine z_get hx hb hts iwX5_setStation_5 hown hK hM.1 rfl 0 (by decide) flX5_setStation_7 rfl (v := .ref (o + 1)) rfl dX5_setStation_111 ?_
                refine lv_iload_n hx hb dX5_setStation_114 rfl (lv_at hl 1 rfl) ?_
                refine lv_iconst (v := (0 : Int32)) hx hb dX5_setStation_115 (by decide) ?_
                refine z_cS (As := [.int x, .int (0 : Int32)]) (rest := [.ref (o + 1)]) ⟨hx, hb, hml, hown, hts⟩ (kX5_of l G x t e_x (0 : Int32) (0 : Int) kI_0 (by first | assumption | omega)) (va_cwS 2 hts gX5_setStation_X5_of rfl rfl rfl hyX5_of ⟨Nat.le_of_ble_eq_true rfl, Nat.le_of_ble_eq_true rfl⟩) hK trivial rfl hl.1 rfl (Nat.le_of_ble_eq_true rfl) dX5_setStation_116 ⟨Nat.zero_le _, Nat.zero_le _⟩ (fun z27 e27 => ?_)
                have e27 : z27.toInt = 10 + 731 * t + (0 : Int) := e27
                refine lv_iload_n hx hb dX5_setStation_119 rfl (lv_at hl 2 rfl) ?_
                refine z_iastMs hx hb hK hM hS (by simp only [iv]; omega) e27 (by omega) dX5_setStation_120 (fun H locs hM hsz hq hS => ?_)
                have hM : MO G H o ((kwS μ), upd μ.2.1 (10 + 731 * t + (0 : Int)).toNat xa, (kwB μ), μ.2.2.2.1, μ.2.2.2.2) := hM
                refine lv_aload_n hx hb dX5_setStation_121 rfl (lv_at hl 0 rfl) ?_
                refine z_get hx hb hts iwX5_setStation_5 hown hK hM.1 rfl 0 (by decide) flX5_setStation_7 rfl (v := .ref (o + 1)) rfl dX5_setStation_122 ?_
                refine lv_iload_n hx hb dX5_setStation_125 rfl (lv_at hl 1 rfl) ?_
                refine lv_iconst (v := (1 : Int32)) hx hb dX5_setStation_126 (by decide) ?_
                refine z_cS (As := [.int x, .int (1 : Int32)]) (rest := [.ref (o + 1)]) ⟨hx, hb, hml, hown, hts⟩ (kX5_of l G x t e_x (1 : Int32) (1 : Int) kI_1 (by first | assumption | omega)) (va_cwS 2 hts gX5_setStation_X5_of rfl rfl rfl hyX5_of ⟨Nat.le_of_ble_eq_true rfl, Nat.le_of_ble_eq_true rfl⟩) hK trivial rfl hl.1 rfl (Nat.le_of_ble_eq_true rfl) dX5_setStation_127 ⟨Nat.zero_le _, Nat.zero_le _⟩ (fun z28 e28 => ?_)
                have e28 : z28.toInt = 10 + 731 * t + (1 : Int) := e28
                refine lv_iload_n hx hb dX5_setStation_130 rfl (lv_at hl 3 rfl) ?_
                refine z_iastMs hx hb hK hM hS (by simp only [iv]; omega) e28 (by omega) dX5_setStation_131 (fun H locs hM hsz hq hS => ?_)
                have hM : MO G H o ((kwS μ), upd (upd μ.2.1 (10 + 731 * t + (0 : Int)).toNat xa) (10 + 731 * t + (1 : Int)).toNat xb, (kwB μ), μ.2.2.2.1, μ.2.2.2.2) := hM
                refine lv_aload_n hx hb dX5_setStation_132 rfl (lv_at hl 0 rfl) ?_
                refine z_get hx hb hts iwX5_setStation_5 hown hK hM.1 rfl 0 (by decide) flX5_setStation_7 rfl (v := .ref (o + 1)) rfl dX5_setStation_133 ?_
                refine lv_iload_n hx hb dX5_setStation_136 rfl (lv_at hl 1 rfl) ?_
                refine lv_iconst (v := (2 : Int32)) hx hb dX5_setStation_137 (by decide) ?_
                refine z_cS (As := [.int x, .int (2 : Int32)]) (rest := [.ref (o + 1)]) ⟨hx, hb, hml, hown, hts⟩ (kX5_of l G x t e_x (2 : Int32) (2 : Int) kI_2 (by first | assumption | omega)) (va_cwS 2 hts gX5_setStation_X5_of rfl rfl rfl hyX5_of ⟨Nat.le_of_ble_eq_true rfl, Nat.le_of_ble_eq_true rfl⟩) hK trivial rfl hl.1 rfl (Nat.le_of_ble_eq_true rfl) dX5_setStation_138 ⟨Nat.zero_le _, Nat.zero_le _⟩ (fun z29 e29 => ?_)
                have e29 : z29.toInt = 10 + 731 * t + (2 : Int) := e29
                refine lv_iload hx hb dX5_setStation_141 (lv_at hl 4 rfl) ?_
                refine z_iastMs hx hb hK hM hS (by simp only [iv]; omega) e29 (by omega) dX5_setStation_143 (fun H locs hM hsz hq hS => ?_)
                have hM : MO G H o ((kwS μ), upd (upd (upd μ.2.1 (10 + 731 * t + (0 : Int)).toNat xa) (10 + 731 * t + (1 : Int)).toNat xb) (10 + 731 * t + (2 : Int)).toNat xf, (kwB μ), μ.2.2.2.1, μ.2.2.2.2) := hM
                refine lv_aload_n hx hb dX5_setStation_144 rfl (lv_at hl 0 rfl) ?_
                refine z_get hx hb hts iwX5_setStation_5 hown hK hM.1 rfl 0 (by decide) flX5_setStation_7 rfl (v := .ref (o + 1)) rfl dX5_setStation_145 ?_
                refine lv_iload_n hx hb dX5_setStation_148 rfl (lv_at hl 1 rfl) ?_
                refine lv_iconst (v := (3 : Int32)) hx hb dX5_setStation_149 (by decide) ?_
                refine z_cS (As := [.int x, .int (3 : Int32)]) (rest := [.ref (o + 1)]) ⟨hx, hb, hml, hown, hts⟩ (kX5_of l G x t e_x (3 : Int32) (3 : Int) kI_3 (by first | assumption | omega)) (va_cwS 2 hts gX5_setStation_X5_of rfl rfl rfl hyX5_of ⟨Nat.le_of_ble_eq_true rfl, Nat.le_of_ble_eq_true rfl⟩) hK trivial rfl hl.1 rfl (Nat.le_of_ble_eq_true rfl) dX5_setStation_150 ⟨Nat.zero_le _, Nat.zero_le _⟩ (fun z30 e30 => ?_)
                have e30 : z30.toInt = 10 + 731 * t + (3 : Int) := e30
                refine lv_aload_n hx hb dX5_setStation_153 rfl (lv_at hl 0 rfl) ?_
                refine lv_iload_n hx hb dX5_setStation_154 rfl (lv_at hl 1 rfl) ?_
                refine lv_iconst (v := (0 : Int32)) hx hb dX5_setStation_155 (by decide) ?_
                refine z_cV (As := [.int x, .int (0 : Int32)]) (rest := [.int z30, .ref (o + 1)]) ⟨hx, hb, hml, hown, hts⟩ (kX5_outsideAt l G o ((kwS μ), upd (upd (upd μ.2.1 (10 + 731 * t + (0 : Int)).toNat xa) (10 + 731 * t + (1 : Int)).toNat xb) (10 + 731 * t + (2 : Int)).toNat xf, (kwB μ), μ.2.2.2.1, μ.2.2.2.2) x t e_x (0 : Int32) (0 : Int) kI_0 (setGF σ t (newG σ t xa xb xf)) (hR.set3 hok ht).w (by first | assumption | omega) (by first | assumption | omega) (by show staOk (va_up σ.1.2.2 t.toNat _ t.toNat); rw [va_up_self]; exact hgn) (by first | assumption | omega)) (cwV 2 hts gX5_setStation_X5_outsideAt rfl rfl rfl hyX5_outsideAt ⟨Nat.le_of_ble_eq_true rfl, Nat.le_of_ble_eq_true rfl⟩) hK hM hM.1 rfl rfl hl.1 rfl (Nat.le_of_ble_eq_true rfl) dX5_setStation_156 ⟨Nat.zero_le _, Nat.zero_le _⟩ (fun z31 e31 => ?_)
                have e31 : z31.toInt = watZ (setGF σ t (newG σ t xa xb xf)).2.1 ((setGF σ t (newG σ t xa xb xf)).2.2 t.toNat) (0 : Int) := e31
                have e31 : z31.toInt = watZ σ.1.2.1 (newG σ t xa xb xf) 0 := by rw [e31]; show watZ σ.1.2.1 (va_up _ _ _ _) 0 = _; rw [va_up_self]
                refine z_iastMs hx hb hK hM hS (by simp only [iv]; omega) e30 (by omega) dX5_setStation_159 (fun H locs hM hsz hq hS => ?_)
                have hM : MO G H o ((kwS μ), upd (upd (upd (upd μ.2.1 (10 + 731 * t + (0 : Int)).toNat xa) (10 + 731 * t + (1 : Int)).toNat xb) (10 + 731 * t + (2 : Int)).toNat xf) (10 + 731 * t + (3 : Int)).toNat z31, (kwB μ), μ.2.2.2.1, μ.2.2.2.2) := hM
                refine lv_aload_n hx hb dX5_setStation_160 rfl (lv_at hl 0 rfl) ?_
                refine z_get hx hb hts iwX5_setStation_5 hown hK hM.1 rfl 0 (by decide) flX5_setStation_7 rfl (v := .ref (o + 1)) rfl dX5_setStation_161 ?_
                refine lv_iload_n hx hb dX5_setStation_164 rfl (lv_at hl 1 rfl) ?_
                refine lv_iconst (v := (3 : Int32)) hx hb dX5_setStation_165 (by decide) ?_
                refine z_cS (As := [.int x, .int (3 : Int32)]) (rest := [.ref (o + 1)]) ⟨hx, hb, hml, hown, hts⟩ (kX5_of l G x t e_x (3 : Int32) (3 : Int) kI_3 (by first | assumption | omega)) (va_cwS 2 hts gX5_setStation_X5_of rfl rfl rfl hyX5_of ⟨Nat.le_of_ble_eq_true rfl, Nat.le_of_ble_eq_true rfl⟩) hK trivial rfl hl.1 rfl (Nat.le_of_ble_eq_true rfl) dX5_setStation_166 ⟨Nat.zero_le _, Nat.zero_le _⟩ (fun z32 e32 => ?_)
                have e32 : z32.toInt = 10 + 731 * t + (3 : Int) := e32
                refine z_iald (f := upd (upd (upd (upd μ.2.1 (10 + 731 * t + (0 : Int)).toNat xa) (10 + 731 * t + (1 : Int)).toNat xb) (10 + 731 * t + (2 : Int)).toNat xf) (10 + 731 * t + (3 : Int)).toNat z31) hx hb hK 0 hM.2.1 rfl e32 (by omega) dX5_setStation_169 ?_
                have hcl33 : ((upd (upd (upd (upd μ.2.1 (10 + 731 * t + (0 : Int)).toNat xa) (10 + 731 * t + (1 : Int)).toNat xb) (10 + 731 * t + (2 : Int)).toNat xf) (10 + 731 * t + (3 : Int)).toNat z31) (10 + 731 * t + (3 : Int)).toNat).toInt = watZ σ.1.2.1 (newG σ t xa xb xf) 0 := (by rw [upd_at]; assumption)
                refine lv_ldc (v := (100000 : Int32)) hx hb hown (hts _ flX5_setStation_c53) dX5_setStation_170 ?_
                refine z_iadd hx hb hcl33 kI_100000 dX5_setStation_172 (by omega) (fun z34 e34 => ?_)
                exact z_riw (v := z34) hx hb hr hlocks (show z34.toInt = a_setStation σ t a b f xa xb xf from (by unfold a_setStation; (repeat' split) <;> first | rfl | omega | contradiction | assumption)) ⟨_, hM, (by unfold s_setStation; rw [if_pos (by omega)]; exact hRel.act hfd (hR.sta hok ht hgn (by assumption)) rfl rfl)⟩ hS dX5_setStation_173
              · refine lv_aload_n hx hb dX5_setStation_88 rfl (lv_at hl 0 rfl) ?_
                refine z_get hx hb hts iwX5_setStation_5 hown hK hM.1 rfl 0 (by decide) flX5_setStation_7 rfl (v := .ref (o + 1)) rfl dX5_setStation_89 ?_
                refine lv_iload_n hx hb dX5_setStation_92 rfl (lv_at hl 1 rfl) ?_
                refine lv_iconst (v := (2 : Int32)) hx hb dX5_setStation_93 (by decide) ?_
                refine z_cS (As := [.int x, .int (2 : Int32)]) (rest := [.ref (o + 1)]) ⟨hx, hb, hml, hown, hts⟩ (kX5_of l G x t e_x (2 : Int32) (2 : Int) kI_2 (by first | assumption | omega)) (va_cwS 2 hts gX5_setStation_X5_of rfl rfl rfl hyX5_of ⟨Nat.le_of_ble_eq_true rfl, Nat.le_of_ble_eq_true rfl⟩) hK trivial rfl hl.1 rfl (Nat.le_of_ble_eq_true rfl) dX5_setStation_94 ⟨Nat.zero_le _, Nat.zero_le _⟩ (fun z35 e35 => ?_)
                have e35 : z35.toInt = 10 + 731 * t + (2 : Int) := e35
                refine z_iald (f := μ.2.1) hx hb hK 0 hM.2.1 rfl e35 (by omega) dX5_setStation_97 ?_
                have hcl36 : (μ.2.1 (10 + 731 * t + (2 : Int)).toNat).toInt = ((σ.1.2.2 t.toNat).1 2).toInt := (hR.sc ht 2 (by omega))
                refine lv_iload hx hb dX5_setStation_98 (lv_at hl 4 rfl) ?_
                refine z_icmp_ne (tgt := 106) hx hb hcl36 e_xf dX5_setStation_100 (by decide) (fun c_37 => ?_) (fun c_37 => ?_)
                · refine lv_aload_n hx hb dX5_setStation_106 rfl (lv_at hl 0 rfl) ?_
                  refine z_cVv (As := []) (rest := []) ⟨hx, hb, hml, hown, hts⟩ (kX5_know l G o μ (by first | assumption | omega)) (cwV 0 hts gX5_setStation_X5_know rfl rfl rfl hyX5_know ⟨Nat.le_of_ble_eq_true rfl, Nat.le_of_ble_eq_true rfl⟩) hK hM hM.1 rfl rfl hl.1 rfl (Nat.le_of_ble_eq_true rfl) dX5_setStation_107 ⟨Nat.zero_le _, Nat.zero_le _⟩ hS (fun q h => by simp only [iv] at h ⊢; omega) (fun H locs hB hsz hq hS => ?_)
                  have hM := hB
                  have hM : MO G H o (kwS μ, μ.2.1, kwB μ, μ.2.2.2) := hM
                  have hgn : staOk (newG σ t xa xb xf) := newG_ok e_xa (by omega) e_xb (by omega) e_xf (by omega)
                  have hwb := watZ_b (d := newG σ t xa xb xf) hwo hgn 0
                  refine lv_aload_n hx hb dX5_setStation_110 rfl (lv_at hl 0 rfl) ?_
                  refine z_get hx hb hts iwX5_setStation_5 hown hK hM.1 rfl 0 (by decide) flX5_setStation_7 rfl (v := .ref (o + 1)) rfl dX5_setStation_111 ?_
                  refine lv_iload_n hx hb dX5_setStation_114 rfl (lv_at hl 1 rfl) ?_
                  refine lv_iconst (v := (0 : Int32)) hx hb dX5_setStation_115 (by decide) ?_
                  refine z_cS (As := [.int x, .int (0 : Int32)]) (rest := [.ref (o + 1)]) ⟨hx, hb, hml, hown, hts⟩ (kX5_of l G x t e_x (0 : Int32) (0 : Int) kI_0 (by first | assumption | omega)) (va_cwS 2 hts gX5_setStation_X5_of rfl rfl rfl hyX5_of ⟨Nat.le_of_ble_eq_true rfl, Nat.le_of_ble_eq_true rfl⟩) hK trivial rfl hl.1 rfl (Nat.le_of_ble_eq_true rfl) dX5_setStation_116 ⟨Nat.zero_le _, Nat.zero_le _⟩ (fun z39 e39 => ?_)
                  have e39 : z39.toInt = 10 + 731 * t + (0 : Int) := e39
                  refine lv_iload_n hx hb dX5_setStation_119 rfl (lv_at hl 2 rfl) ?_
                  refine z_iastMs hx hb hK hM hS (by simp only [iv]; omega) e39 (by omega) dX5_setStation_120 (fun H locs hM hsz hq hS => ?_)
                  have hM : MO G H o ((kwS μ), upd μ.2.1 (10 + 731 * t + (0 : Int)).toNat xa, (kwB μ), μ.2.2.2.1, μ.2.2.2.2) := hM
                  refine lv_aload_n hx hb dX5_setStation_121 rfl (lv_at hl 0 rfl) ?_
                  refine z_get hx hb hts iwX5_setStation_5 hown hK hM.1 rfl 0 (by decide) flX5_setStation_7 rfl (v := .ref (o + 1)) rfl dX5_setStation_122 ?_
                  refine lv_iload_n hx hb dX5_setStation_125 rfl (lv_at hl 1 rfl) ?_
                  refine lv_iconst (v := (1 : Int32)) hx hb dX5_setStation_126 (by decide) ?_
                  refine z_cS (As := [.int x, .int (1 : Int32)]) (rest := [.ref (o + 1)]) ⟨hx, hb, hml, hown, hts⟩ (kX5_of l G x t e_x (1 : Int32) (1 : Int) kI_1 (by first | assumption | omega)) (va_cwS 2 hts gX5_setStation_X5_of rfl rfl rfl hyX5_of ⟨Nat.le_of_ble_eq_true rfl, Nat.le_of_ble_eq_true rfl⟩) hK trivial rfl hl.1 rfl (Nat.le_of_ble_eq_true rfl) dX5_setStation_127 ⟨Nat.zero_le _, Nat.zero_le _⟩ (fun z40 e40 => ?_)
                  have e40 : z40.toInt = 10 + 731 * t + (1 : Int) := e40
                  refine lv_iload_n hx hb dX5_setStation_130 rfl (lv_at hl 3 rfl) ?_
                  refine z_iastMs hx hb hK hM hS (by simp only [iv]; omega) e40 (by omega) dX5_setStation_131 (fun H locs hM hsz hq hS => ?_)
                  have hM : MO G H o ((kwS μ), upd (upd μ.2.1 (10 + 731 * t + (0 : Int)).toNat xa) (10 + 731 * t + (1 : Int)).toNat xb, (kwB μ), μ.2.2.2.1, μ.2.2.2.2) := hM
                  refine lv_aload_n hx hb dX5_setStation_132 rfl (lv_at hl 0 rfl) ?_
                  refine z_get hx hb hts iwX5_setStation_5 hown hK hM.1 rfl 0 (by decide) flX5_setStation_7 rfl (v := .ref (o + 1)) rfl dX5_setStation_133 ?_
                  refine lv_iload_n hx hb dX5_setStation_136 rfl (lv_at hl 1 rfl) ?_
                  refine lv_iconst (v := (2 : Int32)) hx hb dX5_setStation_137 (by decide) ?_
                  refine z_cS (As := [.int x, .int (2 : Int32)]) (rest := [.ref (o + 1)]) ⟨hx, hb, hml, hown, hts⟩ (kX5_of l G x t e_x (2 : Int32) (2 : Int) kI_2 (by first | assumption | omega)) (va_cwS 2 hts gX5_setStation_X5_of rfl rfl rfl hyX5_of ⟨Nat.le_of_ble_eq_true rfl, Nat.le_of_ble_eq_true rfl⟩) hK trivial rfl hl.1 rfl (Nat.le_of_ble_eq_true rfl) dX5_setStation_138 ⟨Nat.zero_le _, Nat.zero_le _⟩ (fun z41 e41 => ?_)
                  have e41 : z41.toInt = 10 + 731 * t + (2 : Int) := e41
                  refine lv_iload hx hb dX5_setStation_141 (lv_at hl 4 rfl) ?_
                  refine z_iastMs hx hb hK hM hS (by simp only [iv]; omega) e41 (by omega) dX5_setStation_143 (fun H locs hM hsz hq hS => ?_)
                  have hM : MO G H o ((kwS μ), upd (upd (upd μ.2.1 (10 + 731 * t + (0 : Int)).toNat xa) (10 + 731 * t + (1 : Int)).toNat xb) (10 + 731 * t + (2 : Int)).toNat xf, (kwB μ), μ.2.2.2.1, μ.2.2.2.2) := hM
                  refine lv_aload_n hx hb dX5_setStation_144 rfl (lv_at hl 0 rfl) ?_
                  refine z_get hx hb hts iwX5_setStation_5 hown hK hM.1 rfl 0 (by decide) flX5_setStation_7 rfl (v := .ref (o + 1)) rfl dX5_setStation_145 ?_
                  refine lv_iload_n hx hb dX5_setStation_148 rfl (lv_at hl 1 rfl) ?_
                  refine lv_iconst (v := (3 : Int32)) hx hb dX5_setStation_149 (by decide) ?_
                  refine z_cS (As := [.int x, .int (3 : Int32)]) (rest := [.ref (o + 1)]) ⟨hx, hb, hml, hown, hts⟩ (kX5_of l G x t e_x (3 : Int32) (3 : Int) kI_3 (by first | assumption | omega)) (va_cwS 2 hts gX5_setStation_X5_of rfl rfl rfl hyX5_of ⟨Nat.le_of_ble_eq_true rfl, Nat.le_of_ble_eq_true rfl⟩) hK trivial rfl hl.1 rfl (Nat.le_of_ble_eq_true rfl) dX5_setStation_150 ⟨Nat.zero_le _, Nat.zero_le _⟩ (fun z42 e42 => ?_)
                  have e42 : z42.toInt = 10 + 731 * t + (3 : Int) := e42
                  refine lv_aload_n hx hb dX5_setStation_153 rfl (lv_at hl 0 rfl) ?_
                  refine lv_iload_n hx hb dX5_setStation_154 rfl (lv_at hl 1 rfl) ?_
                  refine lv_iconst (v := (0 : Int32)) hx hb dX5_setStation_155 (by decide) ?_
                  refine z_cV (As := [.int x, .int (0 : Int32)]) (rest := [.int z42, .ref (o + 1)]) ⟨hx, hb, hml, hown, hts⟩ (kX5_outsideAt l G o ((kwS μ), upd (upd (upd μ.2.1 (10 + 731 * t + (0 : Int)).toNat xa) (10 + 731 * t + (1 : Int)).toNat xb) (10 + 731 * t + (2 : Int)).toNat xf, (kwB μ), μ.2.2.2.1, μ.2.2.2.2) x t e_x (0 : Int32) (0 : Int) kI_0 (setGF σ t (newG σ t xa xb xf)) (hR.set3 hok ht).w (by first | assumption | omega) (by first | assumption | omega) (by show staOk (va_up σ.1.2.2 t.toNat _ t.toNat); rw [va_up_self]; exact hgn) (by first | assumption | omega)) (cwV 2 hts gX5_setStation_X5_outsideAt rfl rfl rfl hyX5_outsideAt ⟨Nat.le_of_ble_eq_true rfl, Nat.le_of_ble_eq_true rfl⟩) hK hM hM.1 rfl rfl hl.1 rfl (Nat.le_of_ble_eq_true rfl) dX5_setStation_156 ⟨Nat.zero_le _, Nat.zero_le _⟩ (fun z43 e43 => ?_)
                  have e43 : z43.toInt = watZ (setGF σ t (newG σ t xa xb xf)).2.1 ((setGF σ t (newG σ t xa xb xf)).2.2 t.toNat) (0 : Int) := e43
                  have e43 : z43.toInt = watZ σ.1.2.1 (newG σ t xa xb xf) 0 := by rw [e43]; show watZ σ.1.2.1 (va_up _ _ _ _) 0 = _; rw [va_up_self]
                  refine z_iastMs hx hb hK hM hS (by simp only [iv]; omega) e42 (by omega) dX5_setStation_159 (fun H locs hM hsz hq hS => ?_)
                  have hM : MO G H o ((kwS μ), upd (upd (upd (upd μ.2.1 (10 + 731 * t + (0 : Int)).toNat xa) (10 + 731 * t + (1 : Int)).toNat xb) (10 + 731 * t + (2 : Int)).toNat xf) (10 + 731 * t + (3 : Int)).toNat z43, (kwB μ), μ.2.2.2.1, μ.2.2.2.2) := hM
                  refine lv_aload_n hx hb dX5_setStation_160 rfl (lv_at hl 0 rfl) ?_
                  refine z_get hx hb hts iwX5_setStation_5 hown hK hM.1 rfl 0 (by decide) flX5_setStation_7 rfl (v := .ref (o + 1)) rfl dX5_setStation_161 ?_
                  refine lv_iload_n hx hb dX5_setStation_164 rfl (lv_at hl 1 rfl) ?_
                  refine lv_iconst (v := (3 : Int32)) hx hb dX5_setStation_165 (by decide) ?_
                  refine z_cS (As := [.int x, .int (3 : Int32)]) (rest := [.ref (o + 1)]) ⟨hx, hb, hml, hown, hts⟩ (kX5_of l G x t e_x (3 : Int32) (3 : Int) kI_3 (by first | assumption | omega)) (va_cwS 2 hts gX5_setStation_X5_of rfl rfl rfl hyX5_of ⟨Nat.le_of_ble_eq_true rfl, Nat.le_of_ble_eq_true rfl⟩) hK trivial rfl hl.1 rfl (Nat.le_of_ble_eq_true rfl) dX5_setStation_166 ⟨Nat.zero_le _, Nat.zero_le _⟩ (fun z44 e44 => ?_)
                  have e44 : z44.toInt = 10 + 731 * t + (3 : Int) := e44
                  refine z_iald (f := upd (upd (upd (upd μ.2.1 (10 + 731 * t + (0 : Int)).toNat xa) (10 + 731 * t + (1 : Int)).toNat xb) (10 + 731 * t + (2 : Int)).toNat xf) (10 + 731 * t + (3 : Int)).toNat z43) hx hb hK 0 hM.2.1 rfl e44 (by omega) dX5_setStation_169 ?_
                  have hcl45 : ((upd (upd (upd (upd μ.2.1 (10 + 731 * t + (0 : Int)).toNat xa) (10 + 731 * t + (1 : Int)).toNat xb) (10 + 731 * t + (2 : Int)).toNat xf) (10 + 731 * t + (3 : Int)).toNat z43) (10 + 731 * t + (3 : Int)).toNat).toInt = watZ σ.1.2.1 (newG σ t xa xb xf) 0 := (by rw [upd_at]; assumption)
                  refine lv_ldc (v := (100000 : Int32)) hx hb hown (hts _ flX5_setStation_c53) dX5_setStation_170 ?_
                  refine z_iadd hx hb hcl45 kI_100000 dX5_setStation_172 (by omega) (fun z46 e46 => ?_)
                  exact z_riw (v := z46) hx hb hr hlocks (show z46.toInt = a_setStation σ t a b f xa xb xf from (by unfold a_setStation; (repeat' split) <;> first | rfl | omega | contradiction | assumption)) ⟨_, hM, (by unfold s_setStation; rw [if_pos (by omega)]; exact hRel.act hfd (hR.sta hok ht hgn (by assumption)) rfl rfl)⟩ hS dX5_setStation_173
                · refine lv_bipush (v := (-5 : Int32)) hx hb dX5_setStation_103 (by decide) ?_
                  exact z_riw (v := (-5 : Int32)) hx hb hr hlocks (show (-5 : Int32).toInt = a_setStation σ t a b f xa xb xf from (by unfold a_setStation; (repeat' split) <;> first | rfl | omega | contradiction | assumption)) ⟨_, hM, (by unfold s_setStation; rw [if_neg (by omega)]; exact hRel)⟩ hS dX5_setStation_105
          · refine lv_bipush (v := (-4 : Int32)) hx hb dX5_setStation_57 (by decide) ?_
            exact z_riw (v := (-4 : Int32)) hx hb hr hlocks (show (-4 : Int32).toInt = a_setStation σ t a b f xa xb xf from (by unfold a_setStation; (repeat' split) <;> first | rfl | omega | contradiction | assumption)) ⟨_, hM, (by unfold s_setStation; rw [if_neg (by omega)]; exact hRel)⟩ hS dX5_setStation_59
        · refine lv_bipush (v := (-2 : Int32)) hx hb dX5_setStation_45 (by decide) ?_
          exact z_riw (v := (-2 : Int32)) hx hb hr hlocks (show (-2 : Int32).toInt = a_setStation σ t a b f xa xb xf from (by unfold a_setStation; (repeat' split) <;> first | rfl | omega | contradiction | assumption)) ⟨_, hM, (by unfold s_setStation; rw [if_neg (by omega)]; exact hRel)⟩ hS dX5_setStation_47
  · refine lv_iconst (v := (-1 : Int32)) hx hb dX5_setStation_7 (by decide) ?_
    exact z_riw (v := (-1 : Int32)) hx hb hr hlocks (show (-1 : Int32).toInt = a_setStation σ t a b f xa xb xf from (by unfold a_setStation; (repeat' split) <;> first | rfl | omega | contradiction | assumption)) ⟨_, hM, (by unfold s_setStation; rw [if_neg (by omega)]; exact hRel)⟩ hS dX5_setStation_8

abbrev rmX5_keep : Room := { frames := 0, cells := 0, slots := 0, locals := 0 }
theorem iwX5_keep_5 : ∀ w ∈ wsX50, w ∈ wsX5_keep := fun _ h => List.mem_cons_of_mem _ (List.mem_append_right _ h)
theorem flX5_keep_131 : Cond.fieldLink RX5 131 "SiltedFloatsModel" "isKept" "Z" ∈ wsX5_keep := by decide +kernel
theorem flX5_keep_16 : Cond.fieldLink RX5 16 "SiltedFloatsModel" "kept" "[I" ∈ wsX5_keep := by decide +kernel
theorem flX5_keep_7 : Cond.fieldLink RX5 7 "SiltedFloatsModel" "s" "[I" ∈ wsX5_keep := by decide +kernel
theorem hyX5_keep : yX5_keep.cls = RX5 ∧ yX5_keep.cls ≠ "java/lang/invoke/MethodHandle" ∧ yX5_keep.cls ≠ "java/lang/invoke/VarHandle" ∧ (parseMethodDescriptor yX5_keep.desc).map (fun d => d.parameters.length) = some 0 := by decide +kernel
set_option maxHeartbeats 1000000 in
set_option maxRecDepth 100000 in
theorem kX5_keep (l : Launch) (G : xG) (o : Nat) (μ : MD) (σ : FD) (hRel : Rel σ μ) (hfd : fdOk σ) : Met l yX5_keep wsX5_keep rmX5_keep (va_Pc [.ref o] (zPre G (fun H => MO G H o μ))) (zW (fun v => v.toInt = σ.1.1.toInt) (fun H => ∃ n9 : MD, MO G H o n9 ∧ (Rel (s_keep σ) n9)) (iv o 5)) 0 0 (iv o 5) := by
  refine z_ofW (cc := cX5_keep) (maxL := 2) (ret := some .int) (by decide +kernel) rfl (Nat.le_of_ble_eq_true rfl) ?_
  intro p e s m below meth c hx hb hml hr hts hown hlocks hK hP ls hl
  have hM := hP
  have hown : s.vm.findClass RX5 = some m.cls := hown
  have hl : lv_has ls 2 [(0, .ref o)] := hl
  have hS : va_S (iv o 5) s.heap s.heap [] := va_S.rf
  have hR := hRel.1
  have hok := hfd.1
  have hn0 := hR.1
  have hok1 := hok.1
  have hW := hR.w
  have hwo := hok.2.1
  have hkn : 0 ≤ (μ.1 2).toInt ∧ (μ.1 2).toInt ≤ 4 := by rw [hRel.2.1.1]; exact hfd.2.2.2.2.1
  have cut2 : ∀ (n2 : Nat), ∀ (x1 : Int32) (i1 : Int) (_ : x1.toInt = i1), (2203 - i1).toNat < n2 → (0 ≤ i1 ∧ i1 ≤ 2203) → ∀ (H : Heap) (locs : List Loc), MO G H o (μ.1, μ.2.1, μ.2.2.1, (cpB μ.2.2.2.1 μ.2.1 0 i1), μ.2.2.2.2) → va_S (iv o 5) s.heap H locs → ∀ ls : Array Slot, lv_has ls 2 [(0, .ref o), (1, .int x1)] → W p l e rmX5_keep s m ([.ref o] : List Value).toArray below meth c H locs 0 0 (MQ below (zW (fun v => v.toInt = σ.1.1.toInt) (fun H => ∃ n9 : MD, MO G H o n9 ∧ (Rel (s_keep σ) n9)) (iv o 5)) ([.ref o] : List Value).toArray s 0 0 (iv o 5)) (F0 m 2 ls []) := by
    intro n2
    induction n2 with
    | zero =>
      intro x1 i1 hx1 hmu2 hi2_0 H locs hM hS ls hl
      exact absurd hmu2 (Nat.not_lt_zero _)
    | succ n2 ih2 =>
      intro x1 i1 hx1 hmu2 hi2_0 H locs hM hS ls hl
      refine lv_iload_n hx hb dX5_keep_2 rfl (lv_at hl 1 rfl) ?_
      refine lv_sipush (v := (2203 : Int32)) hx hb dX5_keep_3 (by decide) ?_
      refine z_icmp_ge (tgt := 27) hx hb hx1 kI_2203 dX5_keep_6 (by decide) (fun c_1 => ?_) (fun c_1 => ?_)
      · refine lv_aload_n hx hb dX5_keep_27 rfl (lv_at hl 0 rfl) ?_
        refine lv_iconst (v := (1 : Int32)) hx hb dX5_keep_28 (by decide) ?_
        refine z_putM hx hb hts iwX5_keep_5 hown hK hM hS (by simp only [iv]; omega) 4 (by decide) flX5_keep_131 rfl rfl (ty := .boolean) rfl rfl rfl dX5_keep_29 (fun H locs hM hsz hq hS => ?_)
        have hM : MO G H o (upd μ.1 4 (1 : Int32), μ.2.1, μ.2.2.1, (cpB μ.2.2.2.1 μ.2.1 0 i1), μ.2.2.2.2) := hM
        refine lv_aload_n hx hb dX5_keep_32 rfl (lv_at hl 0 rfl) ?_
        refine z_get hx hb hts iwX5_keep_5 hown hK hM.1 rfl 0 (by decide) flX5_keep_7 rfl (v := .ref (o + 1)) rfl dX5_keep_33 ?_
        refine lv_iconst (v := (0 : Int32)) hx hb dX5_keep_36 (by decide) ?_
        refine z_iald (f := μ.2.1) hx hb hK 0 hM.2.1 rfl kI_0 (by omega) dX5_keep_37 ?_
        exact z_riw (v := μ.2.1 (0 : Int).toNat) hx hb hr hlocks (show (μ.2.1 (0 : Int).toNat).toInt = σ.1.1.toInt from hn0) ⟨_, hM, (by rw [show i1 = 2203 by omega]; exact hRel.kp (Rs.cp hR hfd.1))⟩ hS dX5_keep_38
      · refine lv_aload_n hx hb dX5_keep_9 rfl (lv_at hl 0 rfl) ?_
        refine z_get hx hb hts iwX5_keep_5 hown hK hM.1 rfl 3 (by decide) flX5_keep_16 rfl (v := .ref (o + 3)) rfl dX5_keep_10 ?_
        refine lv_iload_n hx hb dX5_keep_13 rfl (lv_at hl 1 rfl) ?_
        refine lv_aload_n hx hb dX5_keep_14 rfl (lv_at hl 0 rfl) ?_
        refine z_get hx hb hts iwX5_keep_5 hown hK hM.1 rfl 0 (by decide) flX5_keep_7 rfl (v := .ref (o + 1)) rfl dX5_keep_15 ?_
        refine lv_iload_n hx hb dX5_keep_18 rfl (lv_at hl 1 rfl) ?_
        refine z_iald (f := μ.2.1) hx hb hK 0 hM.2.1 rfl hx1 (by omega) dX5_keep_19 ?_
        refine z_iastMk hx hb hK hM hS (by simp only [iv]; omega) hx1 (by omega) dX5_keep_20 (fun H locs hM hsz hq hS => ?_)
        have hM : MO G H o (μ.1, μ.2.1, μ.2.2.1, upd (cpB μ.2.2.2.1 μ.2.1 0 i1) i1.toNat (μ.2.1 i1.toNat), μ.2.2.2.2) := hM
        refine z_iinc (k := 1) hx hb dX5_keep_21 hl rfl hx1 (show (Int32.ofInt 1).toInt = (1 : Int) from rfl) (by omega) (by decide) (fun z2 e2 ls hl => ?_)
        have hl : lv_has ls 2 [(1, .int z2), (0, .ref o)] := hl
        refine lv_goto (tgt := 2) hx hb dX5_keep_24 (by decide) ?_
        exact ih2 z2 (i1 + (1 : Int)) e2 (by omega) (by omega) _ _ (hM.to (by rw [cp0_s (by omega)])) hS ls (lv_sub hl [1, 0] rfl)
  refine lv_iconst (v := (0 : Int32)) hx hb dX5_keep_0 (by decide) ?_
  refine lv_istore_n hx hb dX5_keep_1 rfl hl (by decide) rfl (fun ls hl => ?_)
  have hl : lv_has ls 2 [(1, .int (0 : Int32)), (0, .ref o)] := hl
  exact cut2 (((2203 - (0 : Int)).toNat) + 1) (0 : Int32) (0 : Int) kI_0 (Nat.lt_succ_self _) (by omega) _ _ (hM.to (by rw [cpB_0])) hS ls (lv_sub hl [1, 0] rfl)

abbrev rmX5_restore : Room := { frames := 1, cells := 0, slots := 0, locals := 21 }
theorem iwX5_restore_5 : ∀ w ∈ wsX50, w ∈ wsX5_restore := fun _ h => List.mem_cons_of_mem _ (List.mem_append_right _ h)
theorem flX5_restore_131 : Cond.fieldLink RX5 131 "SiltedFloatsModel" "isKept" "Z" ∈ wsX5_restore := by decide +kernel
theorem flX5_restore_16 : Cond.fieldLink RX5 16 "SiltedFloatsModel" "kept" "[I" ∈ wsX5_restore := by decide +kernel
theorem flX5_restore_7 : Cond.fieldLink RX5 7 "SiltedFloatsModel" "s" "[I" ∈ wsX5_restore := by decide +kernel
theorem hyX5_restore : yX5_restore.cls = RX5 ∧ yX5_restore.cls ≠ "java/lang/invoke/MethodHandle" ∧ yX5_restore.cls ≠ "java/lang/invoke/VarHandle" ∧ (parseMethodDescriptor yX5_restore.desc).map (fun d => d.parameters.length) = some 0 := by decide +kernel
set_option maxHeartbeats 1000000 in
set_option maxRecDepth 100000 in
theorem kX5_restore (l : Launch) (G : xG) (o : Nat) (μ : MD) (σ : FD) (hRel : Rel σ μ) (hfd : fdOk σ) : Met l yX5_restore wsX5_restore rmX5_restore (va_Pc [.ref o] (zPre G (fun H => MO G H o μ))) (zW (fun v => v.toInt = a_restore σ) (fun H => ∃ n9 : MD, MO G H o n9 ∧ (Rel (s_restore σ) n9)) (iv o 5)) 0 0 (iv o 5) := by
  refine z_ofW (cc := cX5_restore) (maxL := 2) (ret := some .int) (by decide +kernel) rfl (Nat.le_of_ble_eq_true rfl) ?_
  intro p e s m below meth c hx hb hml hr hts hown hlocks hK hP ls hl
  have hM := hP
  have hown : s.vm.findClass RX5 = some m.cls := hown
  have hl : lv_has ls 2 [(0, .ref o)] := hl
  have hS : va_S (iv o 5) s.heap s.heap [] := va_S.rf
  have hR := hRel.1
  have hok := hfd.1
  have hn0 := hR.1
  have hok1 := hok.1
  have hW := hR.w
  have hwo := hok.2.1
  have hkn : 0 ≤ (μ.1 2).toInt ∧ (μ.1 2).toInt ≤ 4 := by rw [hRel.2.1.1]; exact hfd.2.2.2.2.1
  have hik := hRel.2.2.1.1
  refine lv_aload_n hx hb dX5_restore_0 rfl (lv_at hl 0 rfl) ?_
  refine z_get hx hb hts iwX5_restore_5 hown hK hM.1 rfl 4 (by decide) flX5_restore_131 rfl (v := .int (μ.1 4)) rfl dX5_restore_1 ?_
  refine z_if_ne (tgt := 10) hx hb rfl dX5_restore_4 (by decide) (fun c_1 => ?_) (fun c_1 => ?_)
  · refine lv_aload_n hx hb dX5_restore_10 rfl (lv_at hl 0 rfl) ?_
    refine z_cVv (As := []) (rest := []) ⟨hx, hb, hml, hown, hts⟩ (kX5_know l G o μ (by first | assumption | omega)) (cwV 0 hts gX5_restore_X5_know rfl rfl rfl hyX5_know ⟨Nat.le_of_ble_eq_true rfl, Nat.le_of_ble_eq_true rfl⟩) hK hM hM.1 rfl rfl hl.1 rfl (Nat.le_of_ble_eq_true rfl) dX5_restore_11 ⟨Nat.zero_le _, Nat.zero_le _⟩ hS (fun q h => by simp only [iv] at h ⊢; omega) (fun H locs hB hsz hq hS => ?_)
    have hM := hB
    have hM : MO G H o (kwS μ, μ.2.1, kwB μ, μ.2.2.2) := hM
    refine lv_iconst (v := (0 : Int32)) hx hb dX5_restore_14 (by decide) ?_
    refine lv_istore_n hx hb dX5_restore_15 rfl hl (by decide) rfl (fun ls hl => ?_)
    have hl : lv_has ls 2 [(1, .int (0 : Int32)), (0, .ref o)] := hl
    have cut16 : ∀ (n16 : Nat), ∀ (x1 : Int32) (i1 : Int) (_ : x1.toInt = i1), (2203 - i1).toNat < n16 → (0 ≤ i1 ∧ i1 ≤ 2203) → ∀ (H : Heap) (locs : List Loc), MO G H o ((kwS μ), (cpB μ.2.1 μ.2.2.2.1 0 i1), (kwB μ), μ.2.2.2.1, μ.2.2.2.2) → va_S (iv o 5) s.heap H locs → ∀ ls : Array Slot, lv_has ls 2 [(0, .ref o), (1, .int x1)] → W p l e rmX5_restore s m ([.ref o] : List Value).toArray below meth c H locs 0 0 (MQ below (zW (fun v => v.toInt = a_restore σ) (fun H => ∃ n9 : MD, MO G H o n9 ∧ (Rel (s_restore σ) n9)) (iv o 5)) ([.ref o] : List Value).toArray s 0 0 (iv o 5)) (F0 m 16 ls []) := by
      intro n16
      induction n16 with
      | zero =>
        intro x1 i1 hx1 hmu16 hi16_0 H locs hM hS ls hl
        exact absurd hmu16 (Nat.not_lt_zero _)
      | succ n16 ih16 =>
        intro x1 i1 hx1 hmu16 hi16_0 H locs hM hS ls hl
        refine lv_iload_n hx hb dX5_restore_16 rfl (lv_at hl 1 rfl) ?_
        refine lv_sipush (v := (2203 : Int32)) hx hb dX5_restore_17 (by decide) ?_
        refine z_icmp_ge (tgt := 41) hx hb hx1 kI_2203 dX5_restore_20 (by decide) (fun c_3 => ?_) (fun c_3 => ?_)
        · have hs9 : Rs σ.2.1 (cpB μ.2.1 μ.2.2.2.1 0 i1) := by rw [show i1 = 2203 by omega]; exact Rs.cp (hRel.2.2.1.2 (by omega)) hfd.2.1
          refine lv_aload_n hx hb dX5_restore_41 rfl (lv_at hl 0 rfl) ?_
          refine z_get hx hb hts iwX5_restore_5 hown hK hM.1 rfl 0 (by decide) flX5_restore_7 rfl (v := .ref (o + 1)) rfl dX5_restore_42 ?_
          refine lv_iconst (v := (0 : Int32)) hx hb dX5_restore_45 (by decide) ?_
          refine z_iald (f := (cpB μ.2.1 μ.2.2.2.1 0 i1)) hx hb hK 0 hM.2.1 rfl kI_0 (by omega) dX5_restore_46 ?_
          have hcl4 : ((cpB μ.2.1 μ.2.2.2.1 0 i1) (0 : Int).toNat).toInt = σ.2.1.1.toInt := hs9.1
          exact z_riw (v := (cpB μ.2.1 μ.2.2.2.1 0 i1) (0 : Int).toNat) hx hb hr hlocks (show ((cpB μ.2.1 μ.2.2.2.1 0 i1) (0 : Int).toNat).toInt = a_restore σ from (by unfold a_restore; (repeat' split) <;> first | rfl | omega | contradiction | assumption)) ⟨_, hM, (by unfold s_restore; rw [if_neg (by omega)]; exact hRel.act hfd hs9 rfl rfl)⟩ hS dX5_restore_47
        · refine lv_aload_n hx hb dX5_restore_23 rfl (lv_at hl 0 rfl) ?_
          refine z_get hx hb hts iwX5_restore_5 hown hK hM.1 rfl 0 (by decide) flX5_restore_7 rfl (v := .ref (o + 1)) rfl dX5_restore_24 ?_
          refine lv_iload_n hx hb dX5_restore_27 rfl (lv_at hl 1 rfl) ?_
          refine lv_aload_n hx hb dX5_restore_28 rfl (lv_at hl 0 rfl) ?_
          refine z_get hx hb hts iwX5_restore_5 hown hK hM.1 rfl 3 (by decide) flX5_restore_16 rfl (v := .ref (o + 3)) rfl dX5_restore_29 ?_
          refine lv_iload_n hx hb dX5_restore_32 rfl (lv_at hl 1 rfl) ?_
          refine z_iald (f := μ.2.2.2.1) hx hb hK 0 hM.2.2.2.1 rfl hx1 (by omega) dX5_restore_33 ?_
          refine z_iastMs hx hb hK hM hS (by simp only [iv]; omega) hx1 (by omega) dX5_restore_34 (fun H locs hM hsz hq hS => ?_)
          have hM : MO G H o ((kwS μ), upd (cpB μ.2.1 μ.2.2.2.1 0 i1) i1.toNat (μ.2.2.2.1 i1.toNat), (kwB μ), μ.2.2.2.1, μ.2.2.2.2) := hM
          refine z_iinc (k := 1) hx hb dX5_restore_35 hl rfl hx1 (show (Int32.ofInt 1).toInt = (1 : Int) from rfl) (by omega) (by decide) (fun z5 e5 ls hl => ?_)
          have hl : lv_has ls 2 [(1, .int z5), (0, .ref o)] := hl
          refine lv_goto (tgt := 16) hx hb dX5_restore_38 (by decide) ?_
          exact ih16 z5 (i1 + (1 : Int)) e5 (by omega) (by omega) _ _ (hM.to (by rw [cp0_s (by omega)])) hS ls (lv_sub hl [1, 0] rfl)
    exact cut16 (((2203 - (0 : Int)).toNat) + 1) (0 : Int32) (0 : Int) kI_0 (Nat.lt_succ_self _) (by omega) _ _ (hM.to (by rw [cpB_0])) hS ls (lv_sub hl [1, 0] rfl)
  · refine lv_bipush (v := (-5 : Int32)) hx hb dX5_restore_7 (by decide) ?_
    exact z_riw (v := (-5 : Int32)) hx hb hr hlocks (show (-5 : Int32).toInt = a_restore σ from (by unfold a_restore; (repeat' split) <;> first | rfl | omega | contradiction | assumption)) ⟨_, hM, (by unfold s_restore; rw [if_pos (by omega)]; exact hRel)⟩ hS dX5_restore_9

abbrev rmX5_undo : Room := { frames := 0, cells := 0, slots := 0, locals := 0 }
theorem iwX5_undo_5 : ∀ w ∈ wsX50, w ∈ wsX5_undo := fun _ h => List.mem_cons_of_mem _ (List.mem_append_right _ h)
theorem flX5_undo_13 : Cond.fieldLink RX5 13 "SiltedFloatsModel" "before" "[I" ∈ wsX5_undo := by decide +kernel
theorem flX5_undo_33 : Cond.fieldLink RX5 33 "SiltedFloatsModel" "known" "I" ∈ wsX5_undo := by decide +kernel
theorem flX5_undo_7 : Cond.fieldLink RX5 7 "SiltedFloatsModel" "s" "[I" ∈ wsX5_undo := by decide +kernel
theorem hyX5_undo : yX5_undo.cls = RX5 ∧ yX5_undo.cls ≠ "java/lang/invoke/MethodHandle" ∧ yX5_undo.cls ≠ "java/lang/invoke/VarHandle" ∧ (parseMethodDescriptor yX5_undo.desc).map (fun d => d.parameters.length) = some 0 := by decide +kernel
set_option maxHeartbeats 1000000 in
set_option maxRecDepth 100000 in
theorem kX5_undo (l : Launch) (G : xG) (o : Nat) (μ : MD) (σ : FD) (hRel : Rel σ μ) (hfd : fdOk σ) : Met l yX5_undo wsX5_undo rmX5_undo (va_Pc [.ref o] (zPre G (fun H => MO G H o μ))) (zW (fun v => v.toInt = a_undo σ) (fun H => ∃ n9 : MD, MO G H o n9 ∧ (Rel (s_undo σ) n9)) (iv o 5)) 0 0 (iv o 5) := by
  refine z_ofW (cc := cX5_undo) (maxL := 2) (ret := some .int) (by decide +kernel) rfl (Nat.le_of_ble_eq_true rfl) ?_
  intro p e s m below meth c hx hb hml hr hts hown hlocks hK hP ls hl
  have hM := hP
  have hown : s.vm.findClass RX5 = some m.cls := hown
  have hl : lv_has ls 2 [(0, .ref o)] := hl
  have hS : va_S (iv o 5) s.heap s.heap [] := va_S.rf
  have hR := hRel.1
  have hok := hfd.1
  have hn0 := hR.1
  have hok1 := hok.1
  have hW := hR.w
  have hwo := hok.2.1
  have hkn : 0 ≤ (μ.1 2).toInt ∧ (μ.1 2).toInt ≤ 4 := by rw [hRel.2.1.1]; exact hfd.2.2.2.2.1
  have hkk := hRel.2.1.1
  refine lv_aload_n hx hb dX5_undo_0 rfl (lv_at hl 0 rfl) ?_
  refine z_get hx hb hts iwX5_undo_5 hown hK hM.1 rfl 2 (by decide) flX5_undo_33 rfl (v := .int (μ.1 2)) rfl dX5_undo_1 ?_
  refine z_if_ne (tgt := 10) hx hb rfl dX5_undo_4 (by decide) (fun c_1 => ?_) (fun c_1 => ?_)
  · refine lv_aload_n hx hb dX5_undo_10 rfl (lv_at hl 0 rfl) ?_
    refine lv_dup hx hb dX5_undo_11 rfl ?_
    refine z_get hx hb hts iwX5_undo_5 hown hK hM.1 rfl 2 (by decide) flX5_undo_33 rfl (v := .int (μ.1 2)) rfl dX5_undo_12 ?_
    refine lv_iconst (v := (1 : Int32)) hx hb dX5_undo_15 (by decide) ?_
    refine z_isub hx hb rfl kI_1 dX5_undo_16 (by omega) (fun z2 e2 => ?_)
    refine z_putM hx hb hts iwX5_undo_5 hown hK hM hS (by simp only [iv]; omega) 2 (by decide) flX5_undo_33 rfl rfl (ty := .int) rfl rfl rfl dX5_undo_17 (fun H locs hM hsz hq hS => ?_)
    have hM : MO G H o (upd μ.1 2 z2, μ.2.1, μ.2.2.1, μ.2.2.2.1, μ.2.2.2.2) := hM
    refine lv_iconst (v := (0 : Int32)) hx hb dX5_undo_20 (by decide) ?_
    refine lv_istore_n hx hb dX5_undo_21 rfl hl (by decide) rfl (fun ls hl => ?_)
    have hl : lv_has ls 2 [(1, .int (0 : Int32)), (0, .ref o)] := hl
    have cut22 : ∀ (n22 : Nat), ∀ (x1 : Int32) (i1 : Int) (_ : x1.toInt = i1), (2203 - i1).toNat < n22 → (0 ≤ i1 ∧ i1 ≤ 2203) → ∀ (H : Heap) (locs : List Loc), MO G H o (upd μ.1 2 z2, (cpB μ.2.1 (fun k => μ.2.2.1 (2203 * ((μ.1 2).toInt - 1).toNat + k)) 0 i1), μ.2.2.1, μ.2.2.2.1, μ.2.2.2.2) → va_S (iv o 5) s.heap H locs → ∀ ls : Array Slot, lv_has ls 2 [(0, .ref o), (1, .int x1)] → W p l e rmX5_undo s m ([.ref o] : List Value).toArray below meth c H locs 0 0 (MQ below (zW (fun v => v.toInt = a_undo σ) (fun H => ∃ n9 : MD, MO G H o n9 ∧ (Rel (s_undo σ) n9)) (iv o 5)) ([.ref o] : List Value).toArray s 0 0 (iv o 5)) (F0 m 22 ls []) := by
      intro n22
      induction n22 with
      | zero =>
        intro x1 i1 hx1 hmu22 hi22_0 H locs hM hS ls hl
        exact absurd hmu22 (Nat.not_lt_zero _)
      | succ n22 ih22 =>
        intro x1 i1 hx1 hmu22 hi22_0 H locs hM hS ls hl
        refine lv_iload_n hx hb dX5_undo_22 rfl (lv_at hl 1 rfl) ?_
        refine lv_sipush (v := (2203 : Int32)) hx hb dX5_undo_23 (by decide) ?_
        refine z_icmp_ge (tgt := 56) hx hb hx1 kI_2203 dX5_undo_26 (by decide) (fun c_3 => ?_) (fun c_3 => ?_)
        · refine lv_aload_n hx hb dX5_undo_56 rfl (lv_at hl 0 rfl) ?_
          refine z_get hx hb hts iwX5_undo_5 hown hK hM.1 rfl 2 (by decide) flX5_undo_33 rfl (v := .int z2) rfl dX5_undo_57 ?_
          exact z_riw (v := z2) hx hb hr hlocks (show z2.toInt = a_undo σ from (by unfold a_undo; (repeat' split) <;> first | rfl | omega | contradiction | assumption)) ⟨_, hM, (by unfold s_undo; rw [if_neg (by omega), show i1 = 2203 by omega]; exact hRel.un hfd (by omega) e2 (fun _ a b => Rs.cp b a))⟩ hS dX5_undo_60
        · refine lv_aload_n hx hb dX5_undo_29 rfl (lv_at hl 0 rfl) ?_
          refine z_get hx hb hts iwX5_undo_5 hown hK hM.1 rfl 0 (by decide) flX5_undo_7 rfl (v := .ref (o + 1)) rfl dX5_undo_30 ?_
          refine lv_iload_n hx hb dX5_undo_33 rfl (lv_at hl 1 rfl) ?_
          refine lv_aload_n hx hb dX5_undo_34 rfl (lv_at hl 0 rfl) ?_
          refine z_get hx hb hts iwX5_undo_5 hown hK hM.1 rfl 1 (by decide) flX5_undo_13 rfl (v := .ref (o + 2)) rfl dX5_undo_35 ?_
          refine lv_sipush (v := (2203 : Int32)) hx hb dX5_undo_38 (by decide) ?_
          refine lv_aload_n hx hb dX5_undo_41 rfl (lv_at hl 0 rfl) ?_
          refine z_get hx hb hts iwX5_undo_5 hown hK hM.1 rfl 2 (by decide) flX5_undo_33 rfl (v := .int z2) rfl dX5_undo_42 ?_
          refine z_imul hx hb kI_2203 e2 dX5_undo_45 (by omega) (fun z4 e4 => ?_)
          refine lv_iload_n hx hb dX5_undo_46 rfl (lv_at hl 1 rfl) ?_
          refine z_iadd hx hb e4 hx1 dX5_undo_47 (by omega) (fun z5 e5 => ?_)
          refine z_iald (f := μ.2.2.1) hx hb hK 0 hM.2.2.1 rfl e5 (by omega) dX5_undo_48 ?_
          refine z_iastMs hx hb hK hM hS (by simp only [iv]; omega) hx1 (by omega) dX5_undo_49 (fun H locs hM hsz hq hS => ?_)
          have hM : MO G H o (upd μ.1 2 z2, upd (cpB μ.2.1 (fun k => μ.2.2.1 (2203 * ((μ.1 2).toInt - 1).toNat + k)) 0 i1) i1.toNat (μ.2.2.1 (((2203 : Int) * (((μ.1 2).toInt) - (1 : Int))) + i1).toNat), μ.2.2.1, μ.2.2.2.1, μ.2.2.2.2) := hM
          refine z_iinc (k := 1) hx hb dX5_undo_50 hl rfl hx1 (show (Int32.ofInt 1).toInt = (1 : Int) from rfl) (by omega) (by decide) (fun z6 e6 ls hl => ?_)
          have hl : lv_has ls 2 [(1, .int z6), (0, .ref o)] := hl
          refine lv_goto (tgt := 22) hx hb dX5_undo_53 (by decide) ?_
          exact ih22 z6 (i1 + (1 : Int)) e6 (by omega) (by omega) _ _ (hM.to (by rw [cpU_s (by omega) (by omega)])) hS ls (lv_sub hl [1, 0] rfl)
    exact cut22 (((2203 - (0 : Int)).toNat) + 1) (0 : Int32) (0 : Int) kI_0 (Nat.lt_succ_self _) (by omega) _ _ (hM.to (by rw [cpB_0])) hS ls (lv_sub hl [1, 0] rfl)
  · refine lv_bipush (v := (-5 : Int32)) hx hb dX5_undo_7 (by decide) ?_
    exact z_riw (v := (-5 : Int32)) hx hb hr hlocks (show (-5 : Int32).toInt = a_undo σ from (by unfold a_undo; (repeat' split) <;> first | rfl | omega | contradiction | assumption)) ⟨_, hM, (by unfold s_undo; rw [if_pos (by omega)]; exact hRel)⟩ hS dX5_undo_9
