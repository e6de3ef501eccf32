abbrev rmX5_sign : Room := { frames := 1, cells := 0, slots := 0, locals := 22 }
theorem iwX5_sign_5 : ∀ w ∈ wsX50, w ∈ wsX5_sign := fun _ h => List.mem_cons_of_mem _ (List.mem_append_right _ h)
theorem flX5_sign_19 : Cond.fieldLink RX5 19 "SiltedFloatsModel" "text" "[I" ∈ wsX5_sign := by decide +kernel
theorem flX5_sign_69 : Cond.fieldLink RX5 69 "SiltedFloatsModel" "at" "I" ∈ wsX5_sign := by decide +kernel
theorem flX5_sign_72 : Cond.fieldLink RX5 72 "SiltedFloatsModel" "typed" "I" ∈ wsX5_sign := by decide +kernel
theorem flX5_sign_75 : Cond.fieldLink RX5 75 "SiltedFloatsModel" "isWrong" "Z" ∈ wsX5_sign := by decide +kernel
theorem hyX5_sign : yX5_sign.cls = RX5 ∧ yX5_sign.cls ≠ "java/lang/invoke/MethodHandle" ∧ yX5_sign.cls ≠ "java/lang/invoke/VarHandle" ∧ (parseMethodDescriptor yX5_sign.desc).map (fun d => d.parameters.length) = some 2 := by decide +kernel
set_option maxHeartbeats 2000000 in
set_option maxRecDepth 100000 in
theorem kX5_sign (l : Launch) (G : xG) (o : Nat) (μ : MD) (x : Int32) (lo : Int) (e_x : x.toInt = lo) (y : Int32) (hi : Int) (e_y : y.toInt = hi) (t : TD) (a : Int) (hRt : Rt t μ) (htx : textOk t) (ha : (μ.1 7).toInt = a ∧ 0 ≤ a ∧ a ≤ t.1.toInt) (hw0 : (μ.1 8).toInt = 0) : Met l yX5_sign wsX5_sign rmX5_sign (va_Pc [.ref o, .int x, .int y] (zPre G (fun H => MO G H o μ))) (zW (fun v => v.toInt = chZ t a) (fun H => ∃ n9 : MD, MO G H o n9 ∧ (sgQ lo hi a (chZ t a) μ n9)) (iv o 5)) 0 0 (iv o 5) := by
  refine z_ofW (cc := cX5_sign) (maxL := 4) (ret := some .int) (by decide +kernel) rfl (Nat.le_of_ble_eq_true rfl) ?_
  intro p e s m below meth c hx hb hml hr hts hown hlocks hK hP ls hl
  have hM := hP
  have hown : s.vm.findClass RX5 = some m.cls := hown
  have hl : lv_has ls 4 [(0, .ref o), (1, .int x), (2, .int y)] := hl
  have hS : va_S (iv o 5) s.heap s.heap [] := va_S.rf
  have htl := htx.1
  have ht6 := hRt.1
  have hcb := chZ_b htx a
  have cut47 : ∀ (x3 : Int32) (i3 : Int) (_ : x3.toInt = i3) (xw : Int32) (iw : Int) (_ : xw.toInt = iw), (i3 = chZ t a) → ((iw = 1 ∧ ¬ (lo ≤ chZ t a ∧ chZ t a ≤ hi)) ∨ (iw = 0 ∧ lo ≤ chZ t a ∧ chZ t a ≤ hi)) → ∀ ls : Array Slot, lv_has ls 4 [(0, .ref o), (1, .int x), (2, .int y), (3, .int x3)] → W p l e rmX5_sign s m ([.ref o, .int x, .int y] : List Value).toArray below meth c s.heap [] 0 0 (MQ below (zW (fun v => v.toInt = chZ t a) (fun H => ∃ n9 : MD, MO G H o n9 ∧ (sgQ lo hi a (chZ t a) μ n9)) (iv o 5)) ([.ref o, .int x, .int y] : List Value).toArray s 0 0 (iv o 5)) (F0 m 47 ls [.int xw, .ref o]) := by
    intro x3 i3 hx3 xw iw hxw hi47_0 hi47_1 ls hl
    have hbw : isB xw (¬ (lo ≤ chZ t a ∧ chZ t a ≤ hi)) := hi47_1.elim (fun q => isB.t (hxw.trans q.1) q.2) (fun q => isB.f (hxw.trans q.1) (fun z => z q.2))
    refine z_putM hx hb hts iwX5_sign_5 hown hK hM hS (by simp only [iv]; omega) 8 (by decide) flX5_sign_75 rfl rfl (ty := .boolean) rfl (zi_narB hbw) (zi_fitB hbw) dX5_sign_47 (fun H locs hM hsz hq hS => ?_)
    have hM : MO G H o (upd μ.1 8 xw, μ.2.1, μ.2.2.1, μ.2.2.2.1, μ.2.2.2.2) := hM
    refine lv_aload_n hx hb dX5_sign_50 rfl (lv_at hl 0 rfl) ?_
    refine lv_dup hx hb dX5_sign_51 rfl ?_
    refine z_get hx hb hts iwX5_sign_5 hown hK hM.1 rfl 7 (by decide) flX5_sign_69 rfl (v := .int (μ.1 7)) rfl dX5_sign_52 ?_
    refine lv_aload_n hx hb dX5_sign_55 rfl (lv_at hl 0 rfl) ?_
    refine z_get hx hb hts iwX5_sign_5 hown hK hM.1 rfl 8 (by decide) flX5_sign_75 rfl (v := .int xw) rfl dX5_sign_56 ?_
    refine z_if_eq (tgt := 66) hx hb hxw dX5_sign_59 (by decide) (fun c_1 => ?_) (fun c_1 => ?_)
    · refine lv_iconst (v := (1 : Int32)) hx hb dX5_sign_66 (by decide) ?_
      refine z_iadd hx hb rfl kI_1 dX5_sign_67 (by omega) (fun z2 e2 => ?_)
      refine z_putM hx hb hts iwX5_sign_5 hown hK hM hS (by simp only [iv]; omega) 7 (by decide) flX5_sign_69 rfl rfl (ty := .int) rfl rfl rfl dX5_sign_68 (fun H locs hM hsz hq hS => ?_)
      have hM : MO G H o (upd (upd μ.1 8 xw) 7 z2, μ.2.1, μ.2.2.1, μ.2.2.2.1, μ.2.2.2.2) := hM
      refine lv_iload_n hx hb dX5_sign_71 rfl (lv_at hl 3 rfl) ?_
      exact z_riw (v := x3) hx hb hr hlocks (show x3.toInt = chZ t a from (hx3.trans hi47_0)) ⟨_, hM, (sg_end (iw := iw) hxw hi47_1 (by omega))⟩ hS dX5_sign_72
    · refine lv_iconst (v := (0 : Int32)) hx hb dX5_sign_62 (by decide) ?_
      refine lv_goto (tgt := 67) hx hb dX5_sign_63 (by decide) ?_
      refine z_iadd hx hb rfl kI_0 dX5_sign_67 (by omega) (fun z3 e3 => ?_)
      refine z_putM hx hb hts iwX5_sign_5 hown hK hM hS (by simp only [iv]; omega) 7 (by decide) flX5_sign_69 rfl rfl (ty := .int) rfl rfl rfl dX5_sign_68 (fun H locs hM hsz hq hS => ?_)
      have hM : MO G H o (upd (upd μ.1 8 xw) 7 z3, μ.2.1, μ.2.2.1, μ.2.2.2.1, μ.2.2.2.2) := hM
      refine lv_iload_n hx hb dX5_sign_71 rfl (lv_at hl 3 rfl) ?_
      exact z_riw (v := x3) hx hb hr hlocks (show x3.toInt = chZ t a from (hx3.trans hi47_0)) ⟨_, hM, (sg_end (iw := iw) hxw hi47_1 (by omega))⟩ hS dX5_sign_72
  have cut24 : ∀ (xc : Int32) (ic : Int) (_ : xc.toInt = ic), (ic = chZ t a) → ∀ ls : Array Slot, lv_has ls 4 [(0, .ref o), (1, .int x), (2, .int y)] → W p l e rmX5_sign s m ([.ref o, .int x, .int y] : List Value).toArray below meth c s.heap [] 0 0 (MQ below (zW (fun v => v.toInt = chZ t a) (fun H => ∃ n9 : MD, MO G H o n9 ∧ (sgQ lo hi a (chZ t a) μ n9)) (iv o 5)) ([.ref o, .int x, .int y] : List Value).toArray s 0 0 (iv o 5)) (F0 m 24 ls [.int xc]) := by
    intro xc ic hxc hi24_0 ls hl
    refine lv_istore_n hx hb dX5_sign_24 rfl hl (by decide) rfl (fun ls hl => ?_)
    have hl : lv_has ls 4 [(3, .int xc), (0, .ref o), (1, .int x), (2, .int y)] := hl
    refine lv_aload_n hx hb dX5_sign_25 rfl (lv_at hl 1 rfl) ?_
    refine lv_aload_n hx hb dX5_sign_26 rfl (lv_at hl 1 rfl) ?_
    refine z_get hx hb hts iwX5_sign_5 hown hK hM.1 rfl 8 (by decide) flX5_sign_75 rfl (v := .int (μ.1 8)) rfl dX5_sign_27 ?_
    refine z_if_ne (tgt := 42) hx hb rfl dX5_sign_30 (by decide) (fun c_4 => ?_) (fun c_4 => ?_)
    · omega
    · refine lv_iload_n hx hb dX5_sign_33 rfl (lv_at hl 0 rfl) ?_
      refine lv_iload_n hx hb dX5_sign_34 rfl (lv_at hl 2 rfl) ?_
      refine lv_iload_n hx hb dX5_sign_35 rfl (lv_at hl 3 rfl) ?_
      refine z_cS (As := [.int xc, .int x, .int y]) (rest := [.ref o]) ⟨hx, hb, hml, hown, hts⟩ (kX5_in l G xc ic hxc x lo e_x y hi e_y) (va_cwS 3 hts gX5_sign_X5_in rfl rfl rfl hyX5_in ⟨Nat.le_of_ble_eq_true rfl, Nat.le_of_ble_eq_true rfl⟩) hK trivial rfl hl.1 rfl (Nat.le_of_ble_eq_true rfl) dX5_sign_36 ⟨Nat.zero_le _, Nat.zero_le _⟩ (fun z5 e5 => ?_)
      have e5 : isB z5 (lo ≤ ic ∧ ic ≤ hi) := e5
      refine z_ifb_ne (tgt := 46) hx hb e5 dX5_sign_39 (by decide) (fun c_6 => ?_) (fun c_6 => ?_)
      · refine lv_iconst (v := (0 : Int32)) hx hb dX5_sign_46 (by decide) ?_
        exact cut47 xc ic hxc (0 : Int32) (0 : Int) kI_0 (by omega) (by omega) ls (lv_sub hl [1, 2, 3, 0] rfl)
      · refine lv_iconst (v := (1 : Int32)) hx hb dX5_sign_42 (by decide) ?_
        refine lv_goto (tgt := 47) hx hb dX5_sign_43 (by decide) ?_
        exact cut47 xc ic hxc (1 : Int32) (1 : Int) kI_1 (by omega) (by omega) ls (lv_sub hl [1, 2, 3, 0] rfl)
  refine lv_aload_n hx hb dX5_sign_0 rfl (lv_at hl 0 rfl) ?_
  refine z_get hx hb hts iwX5_sign_5 hown hK hM.1 rfl 7 (by decide) flX5_sign_69 rfl (v := .int (μ.1 7)) rfl dX5_sign_1 ?_
  refine lv_aload_n hx hb dX5_sign_4 rfl (lv_at hl 0 rfl) ?_
  refine z_get hx hb hts iwX5_sign_5 hown hK hM.1 rfl 6 (by decide) flX5_sign_72 rfl (v := .int (μ.1 6)) rfl dX5_sign_5 ?_
  refine z_icmp_ge (tgt := 23) hx hb rfl rfl dX5_sign_8 (by decide) (fun c_7 => ?_) (fun c_7 => ?_)
  · refine lv_iconst (v := (0 : Int32)) hx hb dX5_sign_23 (by decide) ?_
    exact cut24 (0 : Int32) (0 : Int) kI_0 (by rw [chZ_out (by omega)]) ls (lv_sub hl [0, 1, 2] rfl)
  · refine lv_aload_n hx hb dX5_sign_11 rfl (lv_at hl 0 rfl) ?_
    refine z_get hx hb hts iwX5_sign_5 hown hK hM.1 rfl 5 (by decide) flX5_sign_19 rfl (v := .ref (o + 4)) rfl dX5_sign_12 ?_
    refine lv_aload_n hx hb dX5_sign_15 rfl (lv_at hl 0 rfl) ?_
    refine z_get hx hb hts iwX5_sign_5 hown hK hM.1 rfl 7 (by decide) flX5_sign_69 rfl (v := .int (μ.1 7)) rfl dX5_sign_16 ?_
    refine z_iald (f := μ.2.2.2.2) hx hb hK 0 hM.2.2.2.2 rfl rfl (by omega) dX5_sign_19 ?_
    have hcl8 : (μ.2.2.2.2 ((μ.1 7).toInt).toNat).toInt = chZ t a := (hRt.chr htx (by omega) (by omega))
    refine lv_goto (tgt := 24) hx hb dX5_sign_20 (by decide) ?_
    exact cut24 (μ.2.2.2.2 ((μ.1 7).toInt).toNat) (chZ t a) hcl8 rfl ls (lv_sub hl [0, 1, 2] rfl)

abbrev rmX5_does : Room := { frames := 4, cells := 0, slots := 0, locals := 93 }
theorem iwX5_does_5 : ∀ w ∈ wsX50, w ∈ wsX5_does := fun _ h => List.mem_cons_of_mem _ (List.mem_append_right _ h)
theorem flX5_does_7 : Cond.fieldLink RX5 7 "SiltedFloatsModel" "s" "[I" ∈ wsX5_does := by decide +kernel
theorem hyX5_does : yX5_does.cls = RX5 ∧ yX5_does.cls ≠ "java/lang/invoke/MethodHandle" ∧ yX5_does.cls ≠ "java/lang/invoke/VarHandle" ∧ (parseMethodDescriptor yX5_does.desc).map (fun d => d.parameters.length) = some 2 := by decide +kernel
set_option maxHeartbeats 2000000 in
set_option maxRecDepth 100000 in
theorem kX5_does (l : Launch) (G : xG) (o : Nat) (μ : MD) (x : Int32) (k : Int) (e_x : x.toInt = k) (y : Int32) (v : Int) (e_y : y.toInt = v) (τ : SD) (hR : Rs τ μ.2.1) (hok : stOk τ) (hkv : (k = 112 ∧ 0 ≤ v ∧ τ.1.toInt + v ≤ 120) ∨ (slP k ∧ 0 ≤ v ∧ v < 3)) : Met l yX5_does wsX5_does rmX5_does (va_Pc [.ref o, .int x, .int y] (zPre G (fun H => MO G H o μ))) (zV (fun H => ∃ n9 : MD, MO G H o n9 ∧ (Rs (obS τ k v) n9.2.1 ∧ Mf μ n9)) (iv o 5)) 0 0 (iv o 5) := by
  refine z_ofW (cc := cX5_does) (maxL := 4) (ret := none) (by decide +kernel) rfl (Nat.le_of_ble_eq_true rfl) ?_
  intro p e s m below meth c hx hb hml hr hts hown hlocks hK hP ls hl
  have hM := hP
  have hown : s.vm.findClass RX5 = some m.cls := hown
  have hl : lv_has ls 4 [(0, .ref o), (1, .int x), (2, .int y)] := hl
  have hS : va_S (iv o 5) s.heap s.heap [] := va_S.rf
  have hn0 := hR.1
  have hok1 := hok.1
  refine lv_iload_n hx hb dX5_does_0 rfl (lv_at hl 1 rfl) ?_
  rcases (show k = 99 ∨ k = 111 ∨ k = 112 ∨ k = 120 ∨ (k ≠ 99 ∧ k ≠ 111 ∧ k ≠ 112 ∧ k ≠ 120) from by omega) with c_1 | c_1 | c_1 | c_1 | c_1
  · refine lv_lookup (off := 88) (tgt := 89) hx hb dX5_does_1 (by decide) (by rw [e_x, c_1]; rfl) (by decide) ?_
    refine lv_aload_n hx hb dX5_does_89 rfl (lv_at hl 0 rfl) ?_
    refine z_get hx hb hts iwX5_does_5 hown hK hM.1 rfl 0 (by decide) flX5_does_7 rfl (v := .ref (o + 1)) rfl dX5_does_90 ?_
    refine lv_iload_n hx hb dX5_does_93 rfl (lv_at hl 2 rfl) ?_
    refine lv_iconst (v := (4 : Int32)) hx hb dX5_does_94 (by decide) ?_
    refine z_cS (As := [.int y, .int (4 : Int32)]) (rest := [.ref (o + 1)]) ⟨hx, hb, hml, hown, hts⟩ (kX5_of l G y v e_y (4 : Int32) (4 : Int) kI_4 (by first | assumption | omega)) (va_cwS 2 hts gX5_does_X5_of rfl rfl rfl hyX5_of ⟨Nat.le_of_ble_eq_true rfl, Nat.le_of_ble_eq_true rfl⟩) hK trivial rfl hl.1 rfl (Nat.le_of_ble_eq_true rfl) dX5_does_95 ⟨Nat.zero_le _, Nat.zero_le _⟩ (fun z2 e2 => ?_)
    have e2 : z2.toInt = 10 + 731 * v + (4 : Int) := e2
    refine lv_iconst (v := (0 : Int32)) hx hb dX5_does_98 (by decide) ?_
    refine z_iastMs hx hb hK hM hS (by simp only [iv]; omega) e2 (by omega) dX5_does_99 (fun H locs hM hsz hq hS => ?_)
    have hM : MO G H o (μ.1, upd μ.2.1 (10 + 731 * v + (4 : Int)).toNat (0 : Int32), μ.2.2.1, μ.2.2.2.1, μ.2.2.2.2) := hM
    refine lv_goto (tgt := 108) hx hb dX5_does_100 (by decide) ?_
    exact z_rv hx hb hr hlocks ⟨_, hM, ⟨(hR.set (t := v) (k := 4) (v := 0) hok (by omega) (by omega)).to (obS_c (by omega)).symm, rfl, rfl⟩⟩ hS dX5_does_108
  · refine lv_lookup (off := 63) (tgt := 64) hx hb dX5_does_1 (by decide) (by rw [e_x, c_1]; rfl) (by decide) ?_
    refine lv_aload_n hx hb dX5_does_64 rfl (lv_at hl 0 rfl) ?_
    refine z_get hx hb hts iwX5_does_5 hown hK hM.1 rfl 0 (by decide) flX5_does_7 rfl (v := .ref (o + 1)) rfl dX5_does_65 ?_
    refine lv_iload_n hx hb dX5_does_68 rfl (lv_at hl 2 rfl) ?_
    refine lv_bipush (v := (8 : Int32)) hx hb dX5_does_69 (by decide) ?_
    refine z_cS (As := [.int y, .int (8 : Int32)]) (rest := [.ref (o + 1)]) ⟨hx, hb, hml, hown, hts⟩ (kX5_of l G y v e_y (8 : Int32) (8 : Int) kI_8 (by first | assumption | omega)) (va_cwS 2 hts gX5_does_X5_of rfl rfl rfl hyX5_of ⟨Nat.le_of_ble_eq_true rfl, Nat.le_of_ble_eq_true rfl⟩) hK trivial rfl hl.1 rfl (Nat.le_of_ble_eq_true rfl) dX5_does_71 ⟨Nat.zero_le _, Nat.zero_le _⟩ (fun z3 e3 => ?_)
    have e3 : z3.toInt = 10 + 731 * v + (8 : Int) := e3
    refine lv_iload_n hx hb dX5_does_74 rfl (lv_at hl 1 rfl) ?_
    refine lv_bipush (v := (111 : Int32)) hx hb dX5_does_75 (by decide) ?_
    refine z_icmp_ne (tgt := 84) hx hb e_x kI_111 dX5_does_77 (by decide) (fun c_4 => ?_) (fun c_4 => ?_)
    · omega
    · refine lv_iconst (v := (1 : Int32)) hx hb dX5_does_80 (by decide) ?_
      refine lv_goto (tgt := 85) hx hb dX5_does_81 (by decide) ?_
      refine z_iastMs hx hb hK hM hS (by simp only [iv]; omega) e3 (by omega) dX5_does_85 (fun H locs hM hsz hq hS => ?_)
      have hM : MO G H o (μ.1, upd μ.2.1 (10 + 731 * v + (8 : Int)).toNat (1 : Int32), μ.2.2.1, μ.2.2.2.1, μ.2.2.2.2) := hM
      refine lv_goto (tgt := 108) hx hb dX5_does_86 (by decide) ?_
      exact z_rv hx hb hr hlocks ⟨_, hM, ⟨(hR.set (t := v) (k := 8) (v := 1) hok (by omega) (by omega)).to (obS_o (by omega)).symm, rfl, rfl⟩⟩ hS dX5_does_108
  · refine lv_lookup (off := 43) (tgt := 44) hx hb dX5_does_1 (by decide) (by rw [e_x, c_1]; rfl) (by decide) ?_
    refine lv_iconst (v := (0 : Int32)) hx hb dX5_does_44 (by decide) ?_
    refine lv_istore_n hx hb dX5_does_45 rfl hl (by decide) rfl (fun ls hl => ?_)
    have hl : lv_has ls 4 [(3, .int (0 : Int32)), (0, .ref o), (1, .int x), (2, .int y)] := hl
    have cut46 : ∀ (n46 : Nat), ∀ (x3 : Int32) (i3 : Int) (_ : x3.toInt = i3) (d_hM : MD), (v - i3).toNat < n46 → (0 ≤ i3 ∧ i3 ≤ v) → (Rs (passN τ i3.toNat) d_hM.2.1 ∧ Mf μ d_hM) → ∀ (H : Heap) (locs : List Loc), MO G H o d_hM → va_S (iv o 5) s.heap H locs → ∀ ls : Array Slot, lv_has ls 4 [(0, .ref o), (1, .int x), (2, .int y), (3, .int x3)] → W p l e rmX5_does s m ([.ref o, .int x, .int y] : List Value).toArray below meth c H locs 0 0 (MQ below (zV (fun H => ∃ n9 : MD, MO G H o n9 ∧ (Rs (obS τ k v) n9.2.1 ∧ Mf μ n9)) (iv o 5)) ([.ref o, .int x, .int y] : List Value).toArray s 0 0 (iv o 5)) (F0 m 46 ls []) := by
      intro n46
      induction n46 with
      | zero =>
        intro x3 i3 hx3 d_hM hmu46 hi46_0 hi46_1 H locs hM hS ls hl
        exact absurd hmu46 (Nat.not_lt_zero _)
      | succ n46 ih46 =>
        intro x3 i3 hx3 d_hM hmu46 hi46_0 hi46_1 H locs hM hS ls hl
        have hpo := passN_ok hok i3.toNat (by omega)
        refine lv_iload_n hx hb dX5_does_46 rfl (lv_at hl 3 rfl) ?_
        refine lv_iload_n hx hb dX5_does_47 rfl (lv_at hl 2 rfl) ?_
        refine z_icmp_ge (tgt := 61) hx hb hx3 e_y dX5_does_48 (by decide) (fun c_5 => ?_) (fun c_5 => ?_)
        · refine lv_goto (tgt := 108) hx hb dX5_does_61 (by decide) ?_
          exact z_rv hx hb hr hlocks ⟨_, hM, ⟨hi46_1.1.to (by rw [show i3 = v by omega]; exact (obS_p (by omega)).symm), hi46_1.2⟩⟩ hS dX5_does_108
        · refine lv_aload_n hx hb dX5_does_51 rfl (lv_at hl 0 rfl) ?_
          refine z_cVv (As := []) (rest := []) ⟨hx, hb, hml, hown, hts⟩ (kX5_goBy l G o d_hM (passN τ i3.toNat) hi46_1.1 hpo.1 (by first | assumption | omega)) (cwV 0 hts gX5_does_X5_goBy rfl rfl rfl hyX5_goBy ⟨Nat.le_of_ble_eq_true rfl, Nat.le_of_ble_eq_true rfl⟩) hK hM hM.1 rfl rfl hl.1 rfl (Nat.le_of_ble_eq_true rfl) dX5_does_52 ⟨Nat.zero_le _, Nat.zero_le _⟩ hS (fun q h => by simp only [iv] at h ⊢; omega) (fun H locs hB hsz hq hS => ?_)
          obtain ⟨m52, hM, hp52⟩ := hB
          have hM : MO G H o m52 := hM
          have hp52 : (Rs (pH1 (passN τ i3.toNat)) m52.2.1 ∧ Mf d_hM m52) := hp52
          refine z_iinc (k := 3) hx hb dX5_does_55 hl rfl hx3 (show (Int32.ofInt 1).toInt = (1 : Int) from rfl) (by omega) (by decide) (fun z7 e7 ls hl => ?_)
          have hl : lv_has ls 4 [(3, .int z7), (0, .ref o), (1, .int x), (2, .int y)] := hl
          refine lv_goto (tgt := 46) hx hb dX5_does_58 (by decide) ?_
          exact ih46 z7 (i3 + (1 : Int)) e7 m52 (by omega) (by omega) ⟨hp52.1.to (passN_s (by omega)).symm, hp52.2.1.trans hi46_1.2.1, hp52.2.2.trans hi46_1.2.2⟩ _ _ hM hS ls (lv_sub hl [1, 2, 3, 0] rfl)
    exact cut46 (((v - (0 : Int)).toNat) + 1) (0 : Int32) (0 : Int) kI_0 μ (Nat.lt_succ_self _) (by omega) ⟨hR, rfl, rfl⟩ _ _ hM hS ls (lv_sub hl [1, 2, 3, 0] rfl)
  · refine lv_lookup (off := 63) (tgt := 64) hx hb dX5_does_1 (by decide) (by rw [e_x, c_1]; rfl) (by decide) ?_
    refine lv_aload_n hx hb dX5_does_64 rfl (lv_at hl 0 rfl) ?_
    refine z_get hx hb hts iwX5_does_5 hown hK hM.1 rfl 0 (by decide) flX5_does_7 rfl (v := .ref (o + 1)) rfl dX5_does_65 ?_
    refine lv_iload_n hx hb dX5_does_68 rfl (lv_at hl 2 rfl) ?_
    refine lv_bipush (v := (8 : Int32)) hx hb dX5_does_69 (by decide) ?_
    refine z_cS (As := [.int y, .int (8 : Int32)]) (rest := [.ref (o + 1)]) ⟨hx, hb, hml, hown, hts⟩ (kX5_of l G y v e_y (8 : Int32) (8 : Int) kI_8 (by first | assumption | omega)) (va_cwS 2 hts gX5_does_X5_of rfl rfl rfl hyX5_of ⟨Nat.le_of_ble_eq_true rfl, Nat.le_of_ble_eq_true rfl⟩) hK trivial rfl hl.1 rfl (Nat.le_of_ble_eq_true rfl) dX5_does_71 ⟨Nat.zero_le _, Nat.zero_le _⟩ (fun z8 e8 => ?_)
    have e8 : z8.toInt = 10 + 731 * v + (8 : Int) := e8
    refine lv_iload_n hx hb dX5_does_74 rfl (lv_at hl 1 rfl) ?_
    refine lv_bipush (v := (111 : Int32)) hx hb dX5_does_75 (by decide) ?_
    refine z_icmp_ne (tgt := 84) hx hb e_x kI_111 dX5_does_77 (by decide) (fun c_9 => ?_) (fun c_9 => ?_)
    · refine lv_iconst (v := (0 : Int32)) hx hb dX5_does_84 (by decide) ?_
      refine z_iastMs hx hb hK hM hS (by simp only [iv]; omega) e8 (by omega) dX5_does_85 (fun H locs hM hsz hq hS => ?_)
      have hM : MO G H o (μ.1, upd μ.2.1 (10 + 731 * v + (8 : Int)).toNat (0 : Int32), μ.2.2.1, μ.2.2.2.1, μ.2.2.2.2) := hM
      refine lv_goto (tgt := 108) hx hb dX5_does_86 (by decide) ?_
      exact z_rv hx hb hr hlocks ⟨_, hM, ⟨(hR.set (t := v) (k := 8) (v := 0) hok (by omega) (by omega)).to (obS_x (by omega)).symm, rfl, rfl⟩⟩ hS dX5_does_108
    · omega
  · refine lv_lookup (off := 102) (tgt := 103) hx hb dX5_does_1 (by decide) (by rw [e_x]; simp [Op.lookupswitch.offset, Ne.symm c_1.1, Ne.symm c_1.2.1, Ne.symm c_1.2.2.1, Ne.symm c_1.2.2.2]) (by decide) ?_
    refine lv_aload_n hx hb dX5_does_103 rfl (lv_at hl 0 rfl) ?_
    refine lv_iload_n hx hb dX5_does_104 rfl (lv_at hl 2 rfl) ?_
    refine z_cVv (As := [.int y]) (rest := []) ⟨hx, hb, hml, hown, hts⟩ (kX5_note l G o μ y v e_y τ (by first | assumption | omega) (by first | assumption | omega) (by first | assumption | omega)) (cwV 1 hts gX5_does_X5_note rfl rfl rfl hyX5_note ⟨Nat.le_of_ble_eq_true rfl, Nat.le_of_ble_eq_true rfl⟩) hK hM hM.1 rfl rfl hl.1 rfl (Nat.le_of_ble_eq_true rfl) dX5_does_105 ⟨Nat.zero_le _, Nat.zero_le _⟩ hS (fun q h => by simp only [iv] at h ⊢; omega) (fun H locs hB hsz hq hS => ?_)
    obtain ⟨m105, hM, hp105⟩ := hB
    have hM : MO G H o m105 := hM
    have hp105 : (Rs (τ.1, τ.2.1, va_up τ.2.2 v.toNat (ntG (τ.2.2 v.toNat) τ.1)) m105.2.1 ∧ Mf μ m105) := hp105
    exact z_rv hx hb hr hlocks ⟨_, hM, ⟨hp105.1.to (obS_l (by omega)).symm, hp105.2⟩⟩ hS dX5_does_108

abbrev rmX5_order : Room := { frames := 5, cells := 0, slots := 0, locals := 116 }
theorem iwX5_order_5 : ∀ w ∈ wsX50, w ∈ wsX5_order := fun _ h => List.mem_cons_of_mem _ (List.mem_append_right _ h)
theorem flX5_order_19 : Cond.fieldLink RX5 19 "SiltedFloatsModel" "text" "[I" ∈ wsX5_order := by decide +kernel
theorem flX5_order_69 : Cond.fieldLink RX5 69 "SiltedFloatsModel" "at" "I" ∈ wsX5_order := by decide +kernel
theorem flX5_order_72 : Cond.fieldLink RX5 72 "SiltedFloatsModel" "typed" "I" ∈ wsX5_order := by decide +kernel
theorem flX5_order_75 : Cond.fieldLink RX5 75 "SiltedFloatsModel" "isWrong" "Z" ∈ wsX5_order := by decide +kernel
theorem hyX5_order : yX5_order.cls = RX5 ∧ yX5_order.cls ≠ "java/lang/invoke/MethodHandle" ∧ yX5_order.cls ≠ "java/lang/invoke/VarHandle" ∧ (parseMethodDescriptor yX5_order.desc).map (fun d => d.parameters.length) = some 1 := by decide +kernel
set_option maxHeartbeats 2000000 in
set_option maxRecDepth 100000 in
theorem kX5_order (l : Launch) (G : xG) (o : Nat) (μ : MD) (xd : Int32) (D : Prop) (e_xd : isB xd D) (t : TD) (a : Int) (τ : SD) (hRt : Rt t μ) (htx : textOk t) (ha : (μ.1 7).toInt = a ∧ 0 ≤ a ∧ a ≤ t.1.toInt) (hw0 : (μ.1 8).toInt = 0) (hD : D → Rs τ μ.2.1 ∧ stOk τ ∧ fitT t ∧ (chZ t a = 112 → τ.1.toInt + nmZ t (a + 1) ≤ 120)) : Met l yX5_order wsX5_order rmX5_order (va_Pc [.ref o, .int xd] (zPre G (fun H => MO G H o μ))) (zW (fun v => v.toInt = orZ t a) (fun H => ∃ n9 : MD, MO G H o n9 ∧ (ordQ D τ t a μ n9)) (iv o 5)) 0 0 (iv o 5) := by
  refine z_ofW (cc := cX5_order) (maxL := 4) (ret := some .int) (by decide +kernel) rfl (Nat.le_of_ble_eq_true rfl) ?_
  intro p e s m below meth c hx hb hml hr hts hown hlocks hK hP ls hl
  have hM := hP
  have hown : s.vm.findClass RX5 = some m.cls := hown
  have hl : lv_has ls 4 [(0, .ref o), (1, .int xd)] := hl
  have hS : va_S (iv o 5) s.heap s.heap [] := va_S.rf
  have htl := htx.1
  have ht6 := hRt.1
  have hcb := chZ_b htx a
  have hcb1 := chZ_b htx (a + 1)
  have hcb2 := chZ_b htx (a + 2)
  have hnx := nxZ_c t a
  have hnm := nm_c t a
  have hin0 : chZ t a = 0 ∨ a < t.1.toInt := by by_cases q : chZ t a = 0; exact Or.inl q; exact Or.inr (chZ_in q).2.1
  have hin1 : chZ t (a + 1) = 0 ∨ a + 1 < t.1.toInt := by by_cases q : chZ t (a + 1) = 0; exact Or.inl q; exact Or.inr (chZ_in q).2.1
  have cut68 : ∀ (x2 : Int32) (i2 : Int) (_ : x2.toInt = i2) (xw : Int32) (iw : Int) (_ : xw.toInt = iw), (i2 = chZ t a) → ((iw = 1 ∧ ¬ stP t a) ∨ (iw = 0 ∧ stP t a)) → ∀ ls : Array Slot, lv_has ls 4 [(0, .ref o), (1, .int xd), (2, .int x2)] → W p l e rmX5_order s m ([.ref o, .int xd] : List Value).toArray below meth c s.heap [] 0 0 (MQ below (zW (fun v => v.toInt = orZ t a) (fun H => ∃ n9 : MD, MO G H o n9 ∧ (ordQ D τ t a μ n9)) (iv o 5)) ([.ref o, .int xd] : List Value).toArray s 0 0 (iv o 5)) (F0 m 68 ls [.int xw, .ref o]) := by
    intro x2 i2 hx2 xw iw hxw hi68_0 hi68_1 ls hl
    have hbw : isB xw (¬ stP t a) := hi68_1.elim (fun q => isB.t (hxw.trans q.1) q.2) (fun q => isB.f (hxw.trans q.1) (fun z => z q.2))
    refine z_putM hx hb hts iwX5_order_5 hown hK hM hS (by simp only [iv]; omega) 8 (by decide) flX5_order_75 rfl rfl (ty := .boolean) rfl (zi_narB hbw) (zi_fitB hbw) dX5_order_68 (fun H locs hM hsz hq hS => ?_)
    have hM : MO G H o (upd μ.1 8 xw, μ.2.1, μ.2.2.1, μ.2.2.2.1, μ.2.2.2.2) := hM
    refine lv_aload_n hx hb dX5_order_71 rfl (lv_at hl 0 rfl) ?_
    refine lv_dup hx hb dX5_order_72 rfl ?_
    refine z_get hx hb hts iwX5_order_5 hown hK hM.1 rfl 7 (by decide) flX5_order_69 rfl (v := .int (μ.1 7)) rfl dX5_order_73 ?_
    refine lv_aload_n hx hb dX5_order_76 rfl (lv_at hl 0 rfl) ?_
    refine z_get hx hb hts iwX5_order_5 hown hK hM.1 rfl 8 (by decide) flX5_order_75 rfl (v := .int xw) rfl dX5_order_77 ?_
    refine z_if_eq (tgt := 87) hx hb hxw dX5_order_80 (by decide) (fun c_1 => ?_) (fun c_1 => ?_)
    · refine lv_iconst (v := (1 : Int32)) hx hb dX5_order_87 (by decide) ?_
      refine z_iadd hx hb rfl kI_1 dX5_order_88 (by omega) (fun z2 e2 => ?_)
      refine z_putM hx hb hts iwX5_order_5 hown hK hM hS (by simp only [iv]; omega) 7 (by decide) flX5_order_69 rfl rfl (ty := .int) rfl rfl rfl dX5_order_89 (fun H locs hM hsz hq hS => ?_)
      have hM : MO G H o (upd (upd μ.1 8 xw) 7 z2, μ.2.1, μ.2.2.1, μ.2.2.2.1, μ.2.2.2.2) := hM
      refine lv_aload_n hx hb dX5_order_92 rfl (lv_at hl 0 rfl) ?_
      refine z_get hx hb hts iwX5_order_5 hown hK hM.1 rfl 8 (by decide) flX5_order_75 rfl (v := .int xw) rfl dX5_order_93 ?_
      refine z_if_eq (tgt := 101) hx hb hxw dX5_order_96 (by decide) (fun c_3 => ?_) (fun c_3 => ?_)
      · have hst : stP t a := by omega
        have hal : a < t.1.toInt := by omega
        refine lv_iload_n hx hb dX5_order_101 rfl (lv_at hl 2 rfl) ?_
        refine lv_bipush (v := (112 : Int32)) hx hb dX5_order_102 (by decide) ?_
        refine z_icmp_ne (tgt := 121) hx hb hx2 kI_112 dX5_order_104 (by decide) (fun c_4 => ?_) (fun c_4 => ?_)
        · refine lv_aload_n hx hb dX5_order_121 rfl (lv_at hl 0 rfl) ?_
          refine lv_bipush (v := (48 : Int32)) hx hb dX5_order_122 (by decide) ?_
          refine lv_bipush (v := (50 : Int32)) hx hb dX5_order_124 (by decide) ?_
          refine z_cVw (As := [.int (48 : Int32), .int (50 : Int32)]) (rest := []) ⟨hx, hb, hml, hown, hts⟩ (kX5_sign l G o (upd (upd μ.1 8 xw) 7 z2, μ.2.1, μ.2.2.1, μ.2.2.2.1, μ.2.2.2.2) (48 : Int32) (48 : Int) kI_48 (50 : Int32) (50 : Int) kI_50 t (a + 1) (hRt.mk (by exact ⟨rfl, rfl, rfl, rfl⟩)) (by first | assumption | omega) ⟨(by dsimp only; rw [upd_at]; omega), by omega, by omega⟩ (by show xw.toInt = 0; omega)) (cwV 2 hts gX5_order_X5_sign rfl rfl rfl hyX5_sign ⟨Nat.le_of_ble_eq_true rfl, Nat.le_of_ble_eq_true rfl⟩) hK hM hM.1 rfl rfl hl.1 rfl (Nat.le_of_ble_eq_true rfl) dX5_order_126 ⟨Nat.zero_le _, Nat.zero_le _⟩ hS (fun q h => by simp only [iv] at h ⊢; omega) (fun z5 H locs e5 hB hsz hq hS => ?_)
          obtain ⟨m126, hM, hp126⟩ := hB
          have hM : MO G H o m126 := hM
          have hp126 : sgQ (48 : Int) (50 : Int) (a + 1) (chZ t (a + 1)) (upd (upd μ.1 8 xw) 7 z2, μ.2.1, μ.2.2.1, μ.2.2.2.1, μ.2.2.2.2) m126 := hp126
          have e5 : z5.toInt = chZ t (a + 1) := e5
          have hx126 := hp126
          obtain ⟨hk126, hs126, hn126, hd126⟩ := hp126
          have hk126b : Mk μ m126 := Mk.tr (by exact ⟨rfl, rfl, rfl, rfl⟩) hk126
          refine lv_bipush (v := (48 : Int32)) hx hb dX5_order_129 (by decide) ?_
          refine z_isub hx hb e5 kI_48 dX5_order_131 (by omega) (fun z6 e6 => ?_)
          refine lv_istore_n hx hb dX5_order_132 rfl hl (by decide) rfl (fun ls hl => ?_)
          have hl : lv_has ls 4 [(3, .int z6), (0, .ref o), (1, .int xd), (2, .int x2)] := hl
          refine lv_iload_n hx hb dX5_order_133 rfl (lv_at hl 3 rfl) ?_
          refine lv_bipush (v := (112 : Int32)) hx hb dX5_order_134 (by decide) ?_
          refine z_icmp_ne (tgt := 193) hx hb hx2 kI_112 dX5_order_136 (by decide) (fun c_7 => ?_) (fun c_7 => ?_)
          · refine lv_iload_n hx hb dX5_order_193 rfl (lv_at hl 2 rfl) ?_
            refine z_ifb_eq (tgt := 203) hx hb e_xd dX5_order_194 (by decide) (fun c_8 => ?_) (fun c_8 => ?_)
            · refine lv_iload_n hx hb dX5_order_203 rfl (lv_at hl 3 rfl) ?_
              refine lv_bipush (v := (112 : Int32)) hx hb dX5_order_204 (by decide) ?_
              refine z_icmp_ne (tgt := 213) hx hb hx2 kI_112 dX5_order_206 (by decide) (fun c_9 => ?_) (fun c_9 => ?_)
              · refine lv_iconst (v := (0 : Int32)) hx hb dX5_order_213 (by decide) ?_
                exact z_riw (v := (0 : Int32)) hx hb hr hlocks (show (0 : Int32).toInt = orZ t a from (by have hz0 := kI_0; unfold orZ; (repeat' split) <;> omega)) ⟨_, hM, (ord_nd hst hk126b hn126 hs126 (by assumption) (by omega))⟩ hS dX5_order_214
              · omega
            · have hD9 := c_8
              obtain ⟨hDR, hDo, hDf, hDs⟩ := hD hD9
              have hok9 := hDf.ok hst
              have hsn : ¬ slP (chZ t a) ∨ nmZ t (a + 1) = chZ t (a + 1) - 48 := by by_cases q : slP (chZ t a); exact Or.inr (hDf.sn q); exact Or.inl q
              have hds : chZ t a ≠ 112 ∨ τ.1.toInt + nmZ t (a + 1) ≤ 120 := by by_cases q : chZ t a = 112; exact Or.inr (hDs q); exact Or.inl q
              have hnb := nmZ_b t (a + 1)
              refine lv_aload_n hx hb dX5_order_197 rfl (lv_at hl 1 rfl) ?_
              refine lv_iload_n hx hb dX5_order_198 rfl (lv_at hl 3 rfl) ?_
              refine lv_iload_n hx hb dX5_order_199 rfl (lv_at hl 0 rfl) ?_
              refine z_cVv (As := [.int x2, .int z6]) (rest := []) ⟨hx, hb, hml, hown, hts⟩ (kX5_does l G o m126 x2 i2 hx2 z6 ((chZ t (a + 1)) - (48 : Int)) e6 τ (hDR.of21 hs126) hDo (by first | assumption | omega)) (cwV 2 hts gX5_order_X5_does rfl rfl rfl hyX5_does ⟨Nat.le_of_ble_eq_true rfl, Nat.le_of_ble_eq_true rfl⟩) hK hM hM.1 rfl rfl hl.1 rfl (Nat.le_of_ble_eq_true rfl) dX5_order_200 ⟨Nat.zero_le _, Nat.zero_le _⟩ hS (fun q h => by simp only [iv] at h ⊢; omega) (fun H locs hB hsz hq hS => ?_)
              obtain ⟨m200, hM, hp200⟩ := hB
              have hM : MO G H o m200 := hM
              have hp200 : (Rs (obS τ i2 ((chZ t (a + 1)) - (48 : Int))) m200.2.1 ∧ Mf m126 m200) := hp200
              refine lv_iload_n hx hb dX5_order_203 rfl (lv_at hl 3 rfl) ?_
              refine lv_bipush (v := (112 : Int32)) hx hb dX5_order_204 (by decide) ?_
              refine z_icmp_ne (tgt := 213) hx hb hx2 kI_112 dX5_order_206 (by decide) (fun c_11 => ?_) (fun c_11 => ?_)
              · refine lv_iconst (v := (0 : Int32)) hx hb dX5_order_213 (by decide) ?_
                exact z_riw (v := (0 : Int32)) hx hb hr hlocks (show (0 : Int32).toInt = orZ t a from (by have hz0 := kI_0; unfold orZ; (repeat' split) <;> omega)) ⟨_, hM, (ord_d (n := m126) hk126b hn126 hD9 hok9 (by omega) (by omega) hp200.1 hp200.2 (by omega) (by omega))⟩ hS dX5_order_214
              · omega
          · omega
        · refine lv_aload_n hx hb dX5_order_107 rfl (lv_at hl 0 rfl) ?_
          refine lv_bipush (v := (49 : Int32)) hx hb dX5_order_108 (by decide) ?_
          refine lv_bipush (v := (57 : Int32)) hx hb dX5_order_110 (by decide) ?_
          refine z_cVw (As := [.int (49 : Int32), .int (57 : Int32)]) (rest := []) ⟨hx, hb, hml, hown, hts⟩ (kX5_sign l G o (upd (upd μ.1 8 xw) 7 z2, μ.2.1, μ.2.2.1, μ.2.2.2.1, μ.2.2.2.2) (49 : Int32) (49 : Int) kI_49 (57 : Int32) (57 : Int) kI_57 t (a + 1) (hRt.mk (by exact ⟨rfl, rfl, rfl, rfl⟩)) (by first | assumption | omega) ⟨(by dsimp only; rw [upd_at]; omega), by omega, by omega⟩ (by show xw.toInt = 0; omega)) (cwV 2 hts gX5_order_X5_sign rfl rfl rfl hyX5_sign ⟨Nat.le_of_ble_eq_true rfl, Nat.le_of_ble_eq_true rfl⟩) hK hM hM.1 rfl rfl hl.1 rfl (Nat.le_of_ble_eq_true rfl) dX5_order_112 ⟨Nat.zero_le _, Nat.zero_le _⟩ hS (fun q h => by simp only [iv] at h ⊢; omega) (fun z12 H locs e12 hB hsz hq hS => ?_)
          obtain ⟨m112, hM, hp112⟩ := hB
          have hM : MO G H o m112 := hM
          have hp112 : sgQ (49 : Int) (57 : Int) (a + 1) (chZ t (a + 1)) (upd (upd μ.1 8 xw) 7 z2, μ.2.1, μ.2.2.1, μ.2.2.2.1, μ.2.2.2.2) m112 := hp112
          have e12 : z12.toInt = chZ t (a + 1) := e12
          have hx112 := hp112
          obtain ⟨hk112, hs112, hn112, hd112⟩ := hp112
          have hk112b : Mk μ m112 := Mk.tr (by exact ⟨rfl, rfl, rfl, rfl⟩) hk112
          have ht112 : (m112.1 6).toInt = t.1.toInt := ((hRt.mk hk112b).1)
          refine lv_bipush (v := (48 : Int32)) hx hb dX5_order_115 (by decide) ?_
          refine z_isub hx hb e12 kI_48 dX5_order_117 (by omega) (fun z13 e13 => ?_)
          refine lv_goto (tgt := 132) hx hb dX5_order_118 (by decide) ?_
          refine lv_istore_n hx hb dX5_order_132 rfl hl (by decide) rfl (fun ls hl => ?_)
          have hl : lv_has ls 4 [(3, .int z13), (0, .ref o), (1, .int xd), (2, .int x2)] := hl
          refine lv_iload_n hx hb dX5_order_133 rfl (lv_at hl 3 rfl) ?_
          refine lv_bipush (v := (112 : Int32)) hx hb dX5_order_134 (by decide) ?_
          refine z_icmp_ne (tgt := 193) hx hb hx2 kI_112 dX5_order_136 (by decide) (fun c_14 => ?_) (fun c_14 => ?_)
          · omega
          · refine lv_aload_n hx hb dX5_order_139 rfl (lv_at hl 1 rfl) ?_
            refine z_get hx hb hts iwX5_order_5 hown hK hM.1 rfl 8 (by decide) flX5_order_75 rfl (v := .int (m112.1 8)) rfl dX5_order_140 ?_
            refine z_if_ne (tgt := 193) hx hb rfl dX5_order_143 (by decide) (fun c_15 => ?_) (fun c_15 => ?_)
            · refine lv_iload_n hx hb dX5_order_193 rfl (lv_at hl 2 rfl) ?_
              refine z_ifb_eq (tgt := 203) hx hb e_xd dX5_order_194 (by decide) (fun c_16 => ?_) (fun c_16 => ?_)
              · refine lv_iload_n hx hb dX5_order_203 rfl (lv_at hl 3 rfl) ?_
                refine lv_bipush (v := (112 : Int32)) hx hb dX5_order_204 (by decide) ?_
                refine z_icmp_ne (tgt := 213) hx hb hx2 kI_112 dX5_order_206 (by decide) (fun c_17 => ?_) (fun c_17 => ?_)
                · omega
                · refine lv_iload_n hx hb dX5_order_209 rfl (lv_at hl 0 rfl) ?_
                  refine lv_goto (tgt := 214) hx hb dX5_order_210 (by decide) ?_
                  exact z_riw (v := z13) hx hb hr hlocks (show z13.toInt = orZ t a from (by have hz0 := kI_0; unfold orZ; (repeat' split) <;> omega)) ⟨_, hM, (ord_nd hst hk112b hn112 hs112 (by assumption) (by omega))⟩ hS dX5_order_214
              · have hD9 := c_16
                obtain ⟨hDR, hDo, hDf, hDs⟩ := hD hD9
                have hok9 := hDf.ok hst
                have hsn : ¬ slP (chZ t a) ∨ nmZ t (a + 1) = chZ t (a + 1) - 48 := by by_cases q : slP (chZ t a); exact Or.inr (hDf.sn q); exact Or.inl q
                have hds : chZ t a ≠ 112 ∨ τ.1.toInt + nmZ t (a + 1) ≤ 120 := by by_cases q : chZ t a = 112; exact Or.inr (hDs q); exact Or.inl q
                have hnb := nmZ_b t (a + 1)
                refine lv_aload_n hx hb dX5_order_197 rfl (lv_at hl 1 rfl) ?_
                refine lv_iload_n hx hb dX5_order_198 rfl (lv_at hl 3 rfl) ?_
                refine lv_iload_n hx hb dX5_order_199 rfl (lv_at hl 0 rfl) ?_
                refine z_cVv (As := [.int x2, .int z13]) (rest := []) ⟨hx, hb, hml, hown, hts⟩ (kX5_does l G o m112 x2 i2 hx2 z13 ((chZ t (a + 1)) - (48 : Int)) e13 τ (hDR.of21 hs112) hDo (by first | assumption | omega)) (cwV 2 hts gX5_order_X5_does rfl rfl rfl hyX5_does ⟨Nat.le_of_ble_eq_true rfl, Nat.le_of_ble_eq_true rfl⟩) hK hM hM.1 rfl rfl hl.1 rfl (Nat.le_of_ble_eq_true rfl) dX5_order_200 ⟨Nat.zero_le _, Nat.zero_le _⟩ hS (fun q h => by simp only [iv] at h ⊢; omega) (fun H locs hB hsz hq hS => ?_)
                obtain ⟨m200, hM, hp200⟩ := hB
                have hM : MO G H o m200 := hM
                have hp200 : (Rs (obS τ i2 ((chZ t (a + 1)) - (48 : Int))) m200.2.1 ∧ Mf m112 m200) := hp200
                refine lv_iload_n hx hb dX5_order_203 rfl (lv_at hl 3 rfl) ?_
                refine lv_bipush (v := (112 : Int32)) hx hb dX5_order_204 (by decide) ?_
                refine z_icmp_ne (tgt := 213) hx hb hx2 kI_112 dX5_order_206 (by decide) (fun c_19 => ?_) (fun c_19 => ?_)
                · omega
                · refine lv_iload_n hx hb dX5_order_209 rfl (lv_at hl 0 rfl) ?_
                  refine lv_goto (tgt := 214) hx hb dX5_order_210 (by decide) ?_
                  exact z_riw (v := z13) hx hb hr hlocks (show z13.toInt = orZ t a from (by have hz0 := kI_0; unfold orZ; (repeat' split) <;> omega)) ⟨_, hM, (ord_d (n := m112) hk112b hn112 hD9 hok9 (by omega) (by omega) hp200.1 hp200.2 (by omega) (by omega))⟩ hS dX5_order_214
            · refine lv_aload_n hx hb dX5_order_146 rfl (lv_at hl 1 rfl) ?_
              refine z_get hx hb hts iwX5_order_5 hown hK hM.1 rfl 7 (by decide) flX5_order_69 rfl (v := .int (m112.1 7)) rfl dX5_order_147 ?_
              refine lv_aload_n hx hb dX5_order_150 rfl (lv_at hl 1 rfl) ?_
              refine z_get hx hb hts iwX5_order_5 hown hK hM.1 rfl 6 (by decide) flX5_order_72 rfl (v := .int (m112.1 6)) rfl dX5_order_151 ?_
              refine z_icmp_ge (tgt := 193) hx hb rfl rfl dX5_order_154 (by decide) (fun c_20 => ?_) (fun c_20 => ?_)
              · refine lv_iload_n hx hb dX5_order_193 rfl (lv_at hl 2 rfl) ?_
                refine z_ifb_eq (tgt := 203) hx hb e_xd dX5_order_194 (by decide) (fun c_21 => ?_) (fun c_21 => ?_)
                · refine lv_iload_n hx hb dX5_order_203 rfl (lv_at hl 3 rfl) ?_
                  refine lv_bipush (v := (112 : Int32)) hx hb dX5_order_204 (by decide) ?_
                  refine z_icmp_ne (tgt := 213) hx hb hx2 kI_112 dX5_order_206 (by decide) (fun c_22 => ?_) (fun c_22 => ?_)
                  · omega
                  · refine lv_iload_n hx hb dX5_order_209 rfl (lv_at hl 0 rfl) ?_
                    refine lv_goto (tgt := 214) hx hb dX5_order_210 (by decide) ?_
                    exact z_riw (v := z13) hx hb hr hlocks (show z13.toInt = orZ t a from (by have hz0 := kI_0; unfold orZ; (repeat' split) <;> omega)) ⟨_, hM, (ord_nd hst hk112b hn112 hs112 (by assumption) (by omega))⟩ hS dX5_order_214
                · have hD9 := c_21
                  obtain ⟨hDR, hDo, hDf, hDs⟩ := hD hD9
                  have hok9 := hDf.ok hst
                  have hsn : ¬ slP (chZ t a) ∨ nmZ t (a + 1) = chZ t (a + 1) - 48 := by by_cases q : slP (chZ t a); exact Or.inr (hDf.sn q); exact Or.inl q
                  have hds : chZ t a ≠ 112 ∨ τ.1.toInt + nmZ t (a + 1) ≤ 120 := by by_cases q : chZ t a = 112; exact Or.inr (hDs q); exact Or.inl q
                  have hnb := nmZ_b t (a + 1)
                  refine lv_aload_n hx hb dX5_order_197 rfl (lv_at hl 1 rfl) ?_
                  refine lv_iload_n hx hb dX5_order_198 rfl (lv_at hl 3 rfl) ?_
                  refine lv_iload_n hx hb dX5_order_199 rfl (lv_at hl 0 rfl) ?_
                  refine z_cVv (As := [.int x2, .int z13]) (rest := []) ⟨hx, hb, hml, hown, hts⟩ (kX5_does l G o m112 x2 i2 hx2 z13 ((chZ t (a + 1)) - (48 : Int)) e13 τ (hDR.of21 hs112) hDo (by first | assumption | omega)) (cwV 2 hts gX5_order_X5_does rfl rfl rfl hyX5_does ⟨Nat.le_of_ble_eq_true rfl, Nat.le_of_ble_eq_true rfl⟩) hK hM hM.1 rfl rfl hl.1 rfl (Nat.le_of_ble_eq_true rfl) dX5_order_200 ⟨Nat.zero_le _, Nat.zero_le _⟩ hS (fun q h => by simp only [iv] at h ⊢; omega) (fun H locs hB hsz hq hS => ?_)
                  obtain ⟨m200, hM, hp200⟩ := hB
                  have hM : MO G H o m200 := hM
                  have hp200 : (Rs (obS τ i2 ((chZ t (a + 1)) - (48 : Int))) m200.2.1 ∧ Mf m112 m200) := hp200
                  refine lv_iload_n hx hb dX5_order_203 rfl (lv_at hl 3 rfl) ?_
                  refine lv_bipush (v := (112 : Int32)) hx hb dX5_order_204 (by decide) ?_
                  refine z_icmp_ne (tgt := 213) hx hb hx2 kI_112 dX5_order_206 (by decide) (fun c_24 => ?_) (fun c_24 => ?_)
                  · omega
                  · refine lv_iload_n hx hb dX5_order_209 rfl (lv_at hl 0 rfl) ?_
                    refine lv_goto (tgt := 214) hx hb dX5_order_210 (by decide) ?_
                    exact z_riw (v := z13) hx hb hr hlocks (show z13.toInt = orZ t a from (by have hz0 := kI_0; unfold orZ; (repeat' split) <;> omega)) ⟨_, hM, (ord_d (n := m112) hk112b hn112 hD9 hok9 (by omega) (by omega) hp200.1 hp200.2 (by omega) (by omega))⟩ hS dX5_order_214
              · refine lv_aload_n hx hb dX5_order_157 rfl (lv_at hl 1 rfl) ?_
                refine z_get hx hb hts iwX5_order_5 hown hK hM.1 rfl 5 (by decide) flX5_order_19 rfl (v := .ref (o + 4)) rfl dX5_order_158 ?_
                refine lv_aload_n hx hb dX5_order_161 rfl (lv_at hl 1 rfl) ?_
                refine z_get hx hb hts iwX5_order_5 hown hK hM.1 rfl 7 (by decide) flX5_order_69 rfl (v := .int (m112.1 7)) rfl dX5_order_162 ?_
                refine z_iald (f := m112.2.2.2.2) hx hb hK 0 hM.2.2.2.2 rfl rfl (by omega) dX5_order_165 ?_
                have hcl25 : (m112.2.2.2.2 ((m112.1 7).toInt).toNat).toInt = chZ t (a + 2) := ((hRt.mk hk112b).chr htx (by omega) (by omega))
                refine lv_bipush (v := (48 : Int32)) hx hb dX5_order_166 (by decide) ?_
                refine lv_bipush (v := (57 : Int32)) hx hb dX5_order_168 (by decide) ?_
                refine z_cS (As := [.int (m112.2.2.2.2 ((m112.1 7).toInt).toNat), .int (48 : Int32), .int (57 : Int32)]) (rest := []) ⟨hx, hb, hml, hown, hts⟩ (kX5_in l G (m112.2.2.2.2 ((m112.1 7).toInt).toNat) (chZ t (a + 2)) hcl25 (48 : Int32) (48 : Int) kI_48 (57 : Int32) (57 : Int) kI_57) (va_cwS 3 hts gX5_order_X5_in rfl rfl rfl hyX5_in ⟨Nat.le_of_ble_eq_true rfl, Nat.le_of_ble_eq_true rfl⟩) hK trivial rfl hl.1 rfl (Nat.le_of_ble_eq_true rfl) dX5_order_170 ⟨Nat.zero_le _, Nat.zero_le _⟩ (fun z26 e26 => ?_)
                have e26 : isB z26 ((48 : Int) ≤ (chZ t (a + 2)) ∧ (chZ t (a + 2)) ≤ (57 : Int)) := e26
                refine z_ifb_eq (tgt := 193) hx hb e26 dX5_order_173 (by decide) (fun c_27 => ?_) (fun c_27 => ?_)
                · refine lv_iload_n hx hb dX5_order_193 rfl (lv_at hl 2 rfl) ?_
                  refine z_ifb_eq (tgt := 203) hx hb e_xd dX5_order_194 (by decide) (fun c_28 => ?_) (fun c_28 => ?_)
                  · refine lv_iload_n hx hb dX5_order_203 rfl (lv_at hl 3 rfl) ?_
                    refine lv_bipush (v := (112 : Int32)) hx hb dX5_order_204 (by decide) ?_
                    refine z_icmp_ne (tgt := 213) hx hb hx2 kI_112 dX5_order_206 (by decide) (fun c_29 => ?_) (fun c_29 => ?_)
                    · omega
                    · refine lv_iload_n hx hb dX5_order_209 rfl (lv_at hl 0 rfl) ?_
                      refine lv_goto (tgt := 214) hx hb dX5_order_210 (by decide) ?_
                      exact z_riw (v := z13) hx hb hr hlocks (show z13.toInt = orZ t a from (by have hz0 := kI_0; unfold orZ; (repeat' split) <;> omega)) ⟨_, hM, (ord_nd hst hk112b hn112 hs112 (by assumption) (by omega))⟩ hS dX5_order_214
                  · have hD9 := c_28
                    obtain ⟨hDR, hDo, hDf, hDs⟩ := hD hD9
                    have hok9 := hDf.ok hst
                    have hsn : ¬ slP (chZ t a) ∨ nmZ t (a + 1) = chZ t (a + 1) - 48 := by by_cases q : slP (chZ t a); exact Or.inr (hDf.sn q); exact Or.inl q
                    have hds : chZ t a ≠ 112 ∨ τ.1.toInt + nmZ t (a + 1) ≤ 120 := by by_cases q : chZ t a = 112; exact Or.inr (hDs q); exact Or.inl q
                    have hnb := nmZ_b t (a + 1)
                    refine lv_aload_n hx hb dX5_order_197 rfl (lv_at hl 1 rfl) ?_
                    refine lv_iload_n hx hb dX5_order_198 rfl (lv_at hl 3 rfl) ?_
                    refine lv_iload_n hx hb dX5_order_199 rfl (lv_at hl 0 rfl) ?_
                    refine z_cVv (As := [.int x2, .int z13]) (rest := []) ⟨hx, hb, hml, hown, hts⟩ (kX5_does l G o m112 x2 i2 hx2 z13 ((chZ t (a + 1)) - (48 : Int)) e13 τ (hDR.of21 hs112) hDo (by first | assumption | omega)) (cwV 2 hts gX5_order_X5_does rfl rfl rfl hyX5_does ⟨Nat.le_of_ble_eq_true rfl, Nat.le_of_ble_eq_true rfl⟩) hK hM hM.1 rfl rfl hl.1 rfl (Nat.le_of_ble_eq_true rfl) dX5_order_200 ⟨Nat.zero_le _, Nat.zero_le _⟩ hS (fun q h => by simp only [iv] at h ⊢; omega) (fun H locs hB hsz hq hS => ?_)
                    obtain ⟨m200, hM, hp200⟩ := hB
                    have hM : MO G H o m200 := hM
                    have hp200 : (Rs (obS τ i2 ((chZ t (a + 1)) - (48 : Int))) m200.2.1 ∧ Mf m112 m200) := hp200
                    refine lv_iload_n hx hb dX5_order_203 rfl (lv_at hl 3 rfl) ?_
                    refine lv_bipush (v := (112 : Int32)) hx hb dX5_order_204 (by decide) ?_
                    refine z_icmp_ne (tgt := 213) hx hb hx2 kI_112 dX5_order_206 (by decide) (fun c_31 => ?_) (fun c_31 => ?_)
                    · omega
                    · refine lv_iload_n hx hb dX5_order_209 rfl (lv_at hl 0 rfl) ?_
                      refine lv_goto (tgt := 214) hx hb dX5_order_210 (by decide) ?_
                      exact z_riw (v := z13) hx hb hr hlocks (show z13.toInt = orZ t a from (by have hz0 := kI_0; unfold orZ; (repeat' split) <;> omega)) ⟨_, hM, (ord_d (n := m112) hk112b hn112 hD9 hok9 (by omega) (by omega) hp200.1 hp200.2 (by omega) (by omega))⟩ hS dX5_order_214
                · refine lv_bipush (v := (10 : Int32)) hx hb dX5_order_176 (by decide) ?_
                  refine lv_iload_n hx hb dX5_order_178 rfl (lv_at hl 0 rfl) ?_
                  refine z_imul hx hb kI_10 e13 dX5_order_179 (by omega) (fun z32 e32 => ?_)
                  refine lv_aload_n hx hb dX5_order_180 rfl (lv_at hl 1 rfl) ?_
                  refine lv_bipush (v := (48 : Int32)) hx hb dX5_order_181 (by decide) ?_
                  refine lv_bipush (v := (57 : Int32)) hx hb dX5_order_183 (by decide) ?_
                  refine z_cVw (As := [.int (48 : Int32), .int (57 : Int32)]) (rest := [.int z32]) ⟨hx, hb, hml, hown, hts⟩ (kX5_sign l G o m112 (48 : Int32) (48 : Int) kI_48 (57 : Int32) (57 : Int) kI_57 t (a + 2) (hRt.mk hk112b) (by first | assumption | omega) (by omega) (by omega)) (cwV 2 hts gX5_order_X5_sign rfl rfl rfl hyX5_sign ⟨Nat.le_of_ble_eq_true rfl, Nat.le_of_ble_eq_true rfl⟩) hK hM hM.1 rfl rfl hl.1 rfl (Nat.le_of_ble_eq_true rfl) dX5_order_185 ⟨Nat.zero_le _, Nat.zero_le _⟩ hS (fun q h => by simp only [iv] at h ⊢; omega) (fun z33 H locs e33 hB hsz hq hS => ?_)
                  obtain ⟨m185, hM, hp185⟩ := hB
                  have hM : MO G H o m185 := hM
                  have hp185 : sgQ (48 : Int) (57 : Int) (a + 2) (chZ t (a + 2)) m112 m185 := hp185
                  have e33 : z33.toInt = chZ t (a + 2) := e33
                  have hx185 := hp185
                  obtain ⟨hk185, hs185, hn185, hd185⟩ := hp185
                  have hk185b : Mk μ m185 := hk112b.tr hk185
                  refine z_iadd hx hb e32 e33 dX5_order_188 (by omega) (fun z34 e34 => ?_)
                  refine lv_bipush (v := (48 : Int32)) hx hb dX5_order_189 (by decide) ?_
                  refine z_isub hx hb e34 kI_48 dX5_order_191 (by omega) (fun z35 e35 => ?_)
                  refine lv_istore_n hx hb dX5_order_192 rfl hl (by decide) rfl (fun ls hl => ?_)
                  have hl : lv_has ls 4 [(3, .int z35), (0, .ref o), (1, .int xd), (2, .int x2)] := hl
                  refine lv_iload_n hx hb dX5_order_193 rfl (lv_at hl 2 rfl) ?_
                  refine z_ifb_eq (tgt := 203) hx hb e_xd dX5_order_194 (by decide) (fun c_36 => ?_) (fun c_36 => ?_)
                  · refine lv_iload_n hx hb dX5_order_203 rfl (lv_at hl 3 rfl) ?_
                    refine lv_bipush (v := (112 : Int32)) hx hb dX5_order_204 (by decide) ?_
                    refine z_icmp_ne (tgt := 213) hx hb hx2 kI_112 dX5_order_206 (by decide) (fun c_37 => ?_) (fun c_37 => ?_)
                    · omega
                    · refine lv_iload_n hx hb dX5_order_209 rfl (lv_at hl 0 rfl) ?_
                      refine lv_goto (tgt := 214) hx hb dX5_order_210 (by decide) ?_
                      exact z_riw (v := z35) hx hb hr hlocks (show z35.toInt = orZ t a from (by have hz0 := kI_0; unfold orZ; (repeat' split) <;> omega)) ⟨_, hM, (ord_nd hst hk185b (hn185.trans hn112) (hs185.trans hs112) (by assumption) (by omega))⟩ hS dX5_order_214
                  · have hD9 := c_36
                    obtain ⟨hDR, hDo, hDf, hDs⟩ := hD hD9
                    have hok9 := hDf.ok hst
                    have hsn : ¬ slP (chZ t a) ∨ nmZ t (a + 1) = chZ t (a + 1) - 48 := by by_cases q : slP (chZ t a); exact Or.inr (hDf.sn q); exact Or.inl q
                    have hds : chZ t a ≠ 112 ∨ τ.1.toInt + nmZ t (a + 1) ≤ 120 := by by_cases q : chZ t a = 112; exact Or.inr (hDs q); exact Or.inl q
                    have hnb := nmZ_b t (a + 1)
                    refine lv_aload_n hx hb dX5_order_197 rfl (lv_at hl 1 rfl) ?_
                    refine lv_iload_n hx hb dX5_order_198 rfl (lv_at hl 3 rfl) ?_
                    refine lv_iload_n hx hb dX5_order_199 rfl (lv_at hl 0 rfl) ?_
                    refine z_cVv (As := [.int x2, .int z35]) (rest := []) ⟨hx, hb, hml, hown, hts⟩ (kX5_does l G o m185 x2 i2 hx2 z35 ((((10 : Int) * ((chZ t (a + 1)) - (48 : Int))) + (chZ t (a + 2))) - (48 : Int)) e35 τ (hDR.of21 (hs185.trans hs112)) hDo (by first | assumption | omega)) (cwV 2 hts gX5_order_X5_does rfl rfl rfl hyX5_does ⟨Nat.le_of_ble_eq_true rfl, Nat.le_of_ble_eq_true rfl⟩) hK hM hM.1 rfl rfl hl.1 rfl (Nat.le_of_ble_eq_true rfl) dX5_order_200 ⟨Nat.zero_le _, Nat.zero_le _⟩ hS (fun q h => by simp only [iv] at h ⊢; omega) (fun H locs hB hsz hq hS => ?_)
                    obtain ⟨m200, hM, hp200⟩ := hB
                    have hM : MO G H o m200 := hM
                    have hp200 : (Rs (obS τ i2 ((((10 : Int) * ((chZ t (a + 1)) - (48 : Int))) + (chZ t (a + 2))) - (48 : Int))) m200.2.1 ∧ Mf m185 m200) := hp200
                    refine lv_iload_n hx hb dX5_order_203 rfl (lv_at hl 3 rfl) ?_
                    refine lv_bipush (v := (112 : Int32)) hx hb dX5_order_204 (by decide) ?_
                    refine z_icmp_ne (tgt := 213) hx hb hx2 kI_112 dX5_order_206 (by decide) (fun c_39 => ?_) (fun c_39 => ?_)
                    · omega
                    · refine lv_iload_n hx hb dX5_order_209 rfl (lv_at hl 0 rfl) ?_
                      refine lv_goto (tgt := 214) hx hb dX5_order_210 (by decide) ?_
                      exact z_riw (v := z35) hx hb hr hlocks (show z35.toInt = orZ t a from (by have hz0 := kI_0; unfold orZ; (repeat' split) <;> omega)) ⟨_, hM, (ord_d (n := m185) hk185b (hn185.trans hn112) hD9 hok9 (by omega) (by omega) hp200.1 hp200.2 (by omega) (by omega))⟩ hS dX5_order_214
      · omega
    · refine lv_iconst (v := (0 : Int32)) hx hb dX5_order_83 (by decide) ?_
      refine lv_goto (tgt := 88) hx hb dX5_order_84 (by decide) ?_
      refine z_iadd hx hb rfl kI_0 dX5_order_88 (by omega) (fun z40 e40 => ?_)
      refine z_putM hx hb hts iwX5_order_5 hown hK hM hS (by simp only [iv]; omega) 7 (by decide) flX5_order_69 rfl rfl (ty := .int) rfl rfl rfl dX5_order_89 (fun H locs hM hsz hq hS => ?_)
      have hM : MO G H o (upd (upd μ.1 8 xw) 7 z40, μ.2.1, μ.2.2.1, μ.2.2.2.1, μ.2.2.2.2) := hM
      refine lv_aload_n hx hb dX5_order_92 rfl (lv_at hl 0 rfl) ?_
      refine z_get hx hb hts iwX5_order_5 hown hK hM.1 rfl 8 (by decide) flX5_order_75 rfl (v := .int xw) rfl dX5_order_93 ?_
      refine z_if_eq (tgt := 101) hx hb hxw dX5_order_96 (by decide) (fun c_41 => ?_) (fun c_41 => ?_)
      · omega
      · refine lv_iconst (v := (0 : Int32)) hx hb dX5_order_99 (by decide) ?_
        exact z_riw (v := (0 : Int32)) hx hb hr hlocks (show (0 : Int32).toInt = orZ t a from (by unfold orZ; rw [if_neg (by omega)]; rfl)) ⟨_, hM, (ord_w1 (by omega) (hxw.trans (by omega)) (by omega))⟩ hS dX5_order_100
  have cut24 : ∀ (xc : Int32) (ic : Int) (_ : xc.toInt = ic), (ic = chZ t a) → ∀ ls : Array Slot, lv_has ls 4 [(0, .ref o), (1, .int xd)] → W p l e rmX5_order s m ([.ref o, .int xd] : List Value).toArray below meth c s.heap [] 0 0 (MQ below (zW (fun v => v.toInt = orZ t a) (fun H => ∃ n9 : MD, MO G H o n9 ∧ (ordQ D τ t a μ n9)) (iv o 5)) ([.ref o, .int xd] : List Value).toArray s 0 0 (iv o 5)) (F0 m 24 ls [.int xc]) := by
    intro xc ic hxc hi24_0 ls hl
    refine lv_istore_n hx hb dX5_order_24 rfl hl (by decide) rfl (fun ls hl => ?_)
    have hl : lv_has ls 4 [(2, .int xc), (0, .ref o), (1, .int xd)] := hl
    refine lv_aload_n hx hb dX5_order_25 rfl (lv_at hl 1 rfl) ?_
    refine lv_aload_n hx hb dX5_order_26 rfl (lv_at hl 1 rfl) ?_
    refine z_get hx hb hts iwX5_order_5 hown hK hM.1 rfl 8 (by decide) flX5_order_75 rfl (v := .int (μ.1 8)) rfl dX5_order_27 ?_
    refine z_if_ne (tgt := 63) hx hb rfl dX5_order_30 (by decide) (fun c_42 => ?_) (fun c_42 => ?_)
    · omega
    · refine lv_iload_n hx hb dX5_order_33 rfl (lv_at hl 0 rfl) ?_
      refine lv_bipush (v := (112 : Int32)) hx hb dX5_order_34 (by decide) ?_
      refine z_icmp_eq (tgt := 67) hx hb hxc kI_112 dX5_order_36 (by decide) (fun c_43 => ?_) (fun c_43 => ?_)
      · refine lv_iconst (v := (0 : Int32)) hx hb dX5_order_67 (by decide) ?_
        exact cut68 xc ic hxc (0 : Int32) (0 : Int) kI_0 (by omega) (by omega) ls (lv_sub hl [1, 2, 0] rfl)
      · refine lv_iload_n hx hb dX5_order_39 rfl (lv_at hl 0 rfl) ?_
        refine lv_bipush (v := (120 : Int32)) hx hb dX5_order_40 (by decide) ?_
        refine z_icmp_eq (tgt := 67) hx hb hxc kI_120 dX5_order_42 (by decide) (fun c_44 => ?_) (fun c_44 => ?_)
        · refine lv_iconst (v := (0 : Int32)) hx hb dX5_order_67 (by decide) ?_
          exact cut68 xc ic hxc (0 : Int32) (0 : Int) kI_0 (by omega) (by omega) ls (lv_sub hl [1, 2, 0] rfl)
        · refine lv_iload_n hx hb dX5_order_45 rfl (lv_at hl 0 rfl) ?_
          refine lv_bipush (v := (111 : Int32)) hx hb dX5_order_46 (by decide) ?_
          refine z_icmp_eq (tgt := 67) hx hb hxc kI_111 dX5_order_48 (by decide) (fun c_45 => ?_) (fun c_45 => ?_)
          · refine lv_iconst (v := (0 : Int32)) hx hb dX5_order_67 (by decide) ?_
            exact cut68 xc ic hxc (0 : Int32) (0 : Int) kI_0 (by omega) (by omega) ls (lv_sub hl [1, 2, 0] rfl)
          · refine lv_iload_n hx hb dX5_order_51 rfl (lv_at hl 0 rfl) ?_
            refine lv_bipush (v := (99 : Int32)) hx hb dX5_order_52 (by decide) ?_
            refine z_icmp_eq (tgt := 67) hx hb hxc kI_99 dX5_order_54 (by decide) (fun c_46 => ?_) (fun c_46 => ?_)
            · refine lv_iconst (v := (0 : Int32)) hx hb dX5_order_67 (by decide) ?_
              exact cut68 xc ic hxc (0 : Int32) (0 : Int) kI_0 (by omega) (by omega) ls (lv_sub hl [1, 2, 0] rfl)
            · refine lv_iload_n hx hb dX5_order_57 rfl (lv_at hl 0 rfl) ?_
              refine lv_bipush (v := (108 : Int32)) hx hb dX5_order_58 (by decide) ?_
              refine z_icmp_eq (tgt := 67) hx hb hxc kI_108 dX5_order_60 (by decide) (fun c_47 => ?_) (fun c_47 => ?_)
              · refine lv_iconst (v := (0 : Int32)) hx hb dX5_order_67 (by decide) ?_
                exact cut68 xc ic hxc (0 : Int32) (0 : Int) kI_0 (by omega) (by omega) ls (lv_sub hl [1, 2, 0] rfl)
              · refine lv_iconst (v := (1 : Int32)) hx hb dX5_order_63 (by decide) ?_
                refine lv_goto (tgt := 68) hx hb dX5_order_64 (by decide) ?_
                exact cut68 xc ic hxc (1 : Int32) (1 : Int) kI_1 (by omega) (by omega) ls (lv_sub hl [1, 2, 0] rfl)
  refine lv_aload_n hx hb dX5_order_0 rfl (lv_at hl 0 rfl) ?_
  refine z_get hx hb hts iwX5_order_5 hown hK hM.1 rfl 7 (by decide) flX5_order_69 rfl (v := .int (μ.1 7)) rfl dX5_order_1 ?_
  refine lv_aload_n hx hb dX5_order_4 rfl (lv_at hl 0 rfl) ?_
  refine z_get hx hb hts iwX5_order_5 hown hK hM.1 rfl 6 (by decide) flX5_order_72 rfl (v := .int (μ.1 6)) rfl dX5_order_5 ?_
  refine z_icmp_ge (tgt := 23) hx hb rfl rfl dX5_order_8 (by decide) (fun c_48 => ?_) (fun c_48 => ?_)
  · refine lv_iconst (v := (0 : Int32)) hx hb dX5_order_23 (by decide) ?_
    exact cut24 (0 : Int32) (0 : Int) kI_0 (by rw [chZ_out (by omega)]) ls (lv_sub hl [0, 1] rfl)
  · refine lv_aload_n hx hb dX5_order_11 rfl (lv_at hl 0 rfl) ?_
    refine z_get hx hb hts iwX5_order_5 hown hK hM.1 rfl 5 (by decide) flX5_order_19 rfl (v := .ref (o + 4)) rfl dX5_order_12 ?_
    refine lv_aload_n hx hb dX5_order_15 rfl (lv_at hl 0 rfl) ?_
    refine z_get hx hb hts iwX5_order_5 hown hK hM.1 rfl 7 (by decide) flX5_order_69 rfl (v := .int (μ.1 7)) rfl dX5_order_16 ?_
    refine z_iald (f := μ.2.2.2.2) hx hb hK 0 hM.2.2.2.2 rfl rfl (by omega) dX5_order_19 ?_
    have hcl49 : (μ.2.2.2.2 ((μ.1 7).toInt).toNat).toInt = chZ t a := (hRt.chr htx (by omega) (by omega))
    refine lv_goto (tgt := 24) hx hb dX5_order_20 (by decide) ?_
    exact cut24 (μ.2.2.2.2 ((μ.1 7).toInt).toNat) (chZ t a) hcl49 rfl ls (lv_sub hl [0, 1] rfl)
