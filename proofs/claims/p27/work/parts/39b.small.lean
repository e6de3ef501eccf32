abbrev rmL_low : Room := { frames := 0, cells := 0, slots := 0, locals := 0 }
theorem flL_low_c7 : Cond.constant RL 7 (2147483647) ∈ wsL_low := by decide +kernel
theorem hyL_low : yL_low.cls ≠ "java/lang/invoke/MethodHandle" ∧ yL_low.cls ≠ "java/lang/invoke/VarHandle" ∧ (parseMethodDescriptor yL_low.desc).map (fun d => d.parameters.length) = some 2 := by decide +kernel
set_option maxHeartbeats 4000000 in
set_option maxRecDepth 100000 in
theorem kL_low (l : Launch) (G : xG) (x : Int32) (v : Int) (e_x : x.toInt = v) (y : Int32) (n : Int) (e_y : y.toInt = n) (hn : 0 < n) : Met l yL_low wsL_low rmL_low (va_Pc [.int x, .int y] (zPre G (fun H => True))) (zS (fun v => v.toInt = lowZ x n)) 0 0 zno := by
  refine z_ofW (cc := cL_low) (maxL := 2) (ret := some .int) (by decide +kernel) rfl (Nat.le_of_ble_eq_true rfl) ?_
  intro p e s m below meth c hx hb hml hr hts hown hlocks hK hP ls hl
  have hown : s.vm.findClass RL = some m.cls := hown
  have hl : lv_has ls 2 [(0, .int x), (1, .int y)] := hl
  refine lv_iload_n hx hb dL_low_0 rfl (lv_at hl 0 rfl) ?_
  refine lv_ldc (v := (2147483647 : Int32)) hx hb hown (hts _ flL_low_c7) dL_low_1 ?_
  refine lv_iand hx hb dL_low_3 ?_
  obtain ⟨a1, e1⟩ : ∃ a : Int, (x &&& (2147483647 : Int32)).toInt = a := ⟨_, rfl⟩
  refine lv_iload_n hx hb dL_low_4 rfl (lv_at hl 1 rfl) ?_
  refine z_irem hx hb e1 e_y dL_low_5 (by omega) (fun z2 e2 => ?_)
  exact z_ri (v := z2) hx hb hr hlocks (show z2.toInt = lowZ x n from (by rw [e2, ← e1]; rfl)) dL_low_6

abbrev rmL_floor : Room := { frames := 0, cells := 0, slots := 0, locals := 0 }
theorem hyL_floor : yL_floor.cls ≠ "java/lang/invoke/MethodHandle" ∧ yL_floor.cls ≠ "java/lang/invoke/VarHandle" ∧ (parseMethodDescriptor yL_floor.desc).map (fun d => d.parameters.length) = some 2 := by decide +kernel
set_option maxHeartbeats 4000000 in
set_option maxRecDepth 100000 in
theorem kL_floor (l : Launch) (G : xG) (x : Int32) (a : Int) (e_x : x.toInt = a) (y : Int32) (b : Int) (e_y : y.toInt = b) (hb9 : 0 < b ∧ b ≤ 1000000) (ha9 : -1000000000 ≤ a ∧ a ≤ 1000000000) : Met l yL_floor wsL_floor rmL_floor (va_Pc [.int x, .int y] (zPre G (fun H => True))) (zS (fun v => v.toInt = a / b)) 0 0 zno := by
  refine z_ofW (cc := cL_floor) (maxL := 2) (ret := some .int) (by decide +kernel) rfl (Nat.le_of_ble_eq_true rfl) ?_
  intro p e s m below meth c hx hb hml hr hts hown hlocks hK hP ls hl
  have hown : s.vm.findClass RL = some m.cls := hown
  have hl : lv_has ls 2 [(0, .int x), (1, .int y)] := hl
  refine lv_iload_n hx hb dL_floor_0 rfl (lv_at hl 0 rfl) ?_
  refine z_if_ge (tgt := 15) hx hb e_x dL_floor_1 (by decide) (fun c_1 => ?_) (fun c_1 => ?_)
  · refine lv_iload_n hx hb dL_floor_15 rfl (lv_at hl 0 rfl) ?_
    refine lv_iload_n hx hb dL_floor_16 rfl (lv_at hl 1 rfl) ?_
    refine z_idivp hx hb e_x e_y dL_floor_17 (by omega) (fun z2 e2 => ?_)
    exact z_ri (v := z2) hx hb hr hlocks (show z2.toInt = a / b from e2) dL_floor_18
  · have hq9 : 0 ≤ (b - (1 : Int) - a) / b := Int.ediv_nonneg (by omega) (by omega)
    refine lv_iload_n hx hb dL_floor_4 rfl (lv_at hl 1 rfl) ?_
    refine lv_iconst (v := (1 : Int32)) hx hb dL_floor_5 (by decide) ?_
    refine z_isub hx hb e_y kI_1 dL_floor_6 (by omega) (fun z3 e3 => ?_)
    refine lv_iload_n hx hb dL_floor_7 rfl (lv_at hl 0 rfl) ?_
    refine z_isub hx hb e3 e_x dL_floor_8 (by omega) (fun z4 e4 => ?_)
    refine lv_iload_n hx hb dL_floor_9 rfl (lv_at hl 1 rfl) ?_
    refine z_idivp hx hb e4 e_y dL_floor_10 (by omega) (fun z5 e5 => ?_)
    refine z_ineg hx hb e5 dL_floor_11 (by omega) (fun z6 e6 => ?_)
    refine lv_goto (tgt := 18) hx hb dL_floor_12 (by decide) ?_
    exact z_ri (v := z6) hx hb hr hlocks (show z6.toInt = a / b from (by rw [e6]; exact dv_n (by omega) (by omega))) dL_floor_18

abbrev rmL_value : Room := { frames := 4, cells := 0, slots := 0, locals := 88 }
theorem hyL_value : yL_value.cls ≠ "java/lang/invoke/MethodHandle" ∧ yL_value.cls ≠ "java/lang/invoke/VarHandle" ∧ (parseMethodDescriptor yL_value.desc).map (fun d => d.parameters.length) = some 3 := by decide +kernel
set_option maxHeartbeats 4000000 in
set_option maxRecDepth 100000 in
theorem kL_value (l : Launch) (G : xG) (z : Nat) (σ : FD) (xt : Int32) (t : Int) (e_xt : xt.toInt = t) (xh : Int32) (h : Int) (e_xh : xh.toInt = h) (hok : fdOk σ) : Met l yL_value wsL_value rmL_value (va_Pc [.ref z, .int xt, .int xh] (zPre G (fun H => SFP G H z σ))) (zS (fun v => v.toInt = valA σ t h)) 0 0 zno := by
  refine z_ofW (cc := cL_value) (maxL := 4) (ret := some .int) (by decide +kernel) rfl (Nat.le_of_ble_eq_true rfl) ?_
  intro p e s m below meth c hx hb hml hr hts hown hlocks hK hP ls hl
  have hF := hP
  have hown : s.vm.findClass RL = some m.cls := hown
  have hl : lv_has ls 4 [(0, .ref z), (1, .int xt), (2, .int xh)] := hl
  refine lv_aload_n hx hb dL_value_0 rfl (lv_at hl 0 rfl) ?_
  refine lv_iload_n hx hb dL_value_1 rfl (lv_at hl 1 rfl) ?_
  refine lv_iload_n hx hb dL_value_2 rfl (lv_at hl 2 rfl) ?_
  refine lv_iconst (v := (1 : Int32)) hx hb dL_value_3 (by decide) ?_
  refine z_cV (As := [.int xt, .int xh, .int (1 : Int32)]) (rest := []) ⟨hx, hb, hml, hown, hts⟩ (kX4_hour l G z σ xt t e_xt xh h e_xh (1 : Int32) (1 : Int) kI_1 (by first | assumption | omega)) (cwV 3 hts gL_value_X4_hour rfl rfl rfl hyX4_hour ⟨Nat.le_of_ble_eq_true rfl, Nat.le_of_ble_eq_true rfl⟩) hK hF hF.1 rfl rfl hl.1 rfl (Nat.le_of_ble_eq_true rfl) dL_value_4 ⟨Nat.zero_le _, Nat.zero_le _⟩ (fun z1 e1 => ?_)
  have e1 : z1.toInt = a_hour σ t h (1 : Int) := e1
  refine lv_istore_n hx hb dL_value_7 rfl hl (by decide) rfl (fun ls hl => ?_)
  have hl : lv_has ls 4 [(3, .int z1), (0, .ref z), (1, .int xt), (2, .int xh)] := hl
  refine lv_iload_n hx hb dL_value_8 rfl (lv_at hl 0 rfl) ?_
  refine lv_bipush (v := (-5 : Int32)) hx hb dL_value_9 (by decide) ?_
  refine z_icmp_ne (tgt := 24) hx hb e1 kI_m5 dL_value_11 (by decide) (fun c_2 => ?_) (fun c_2 => ?_)
  · refine lv_iload_n hx hb dL_value_24 rfl (lv_at hl 0 rfl) ?_
    exact z_ri (v := z1) hx hb hr hlocks (show z1.toInt = valA σ t h from (by unfold valA; first | (rw [if_pos (by assumption)]; exact e1) | (rw [if_neg (by assumption)]; exact e1))) dL_value_25
  · refine lv_aload_n hx hb dL_value_14 rfl (lv_at hl 1 rfl) ?_
    refine lv_iload_n hx hb dL_value_15 rfl (lv_at hl 2 rfl) ?_
    refine lv_iload_n hx hb dL_value_16 rfl (lv_at hl 3 rfl) ?_
    refine lv_iconst (v := (2 : Int32)) hx hb dL_value_17 (by decide) ?_
    refine z_cV (As := [.int xt, .int xh, .int (2 : Int32)]) (rest := []) ⟨hx, hb, hml, hown, hts⟩ (kX4_hour l G z σ xt t e_xt xh h e_xh (2 : Int32) (2 : Int) kI_2 (by first | assumption | omega)) (cwV 3 hts gL_value_X4_hour rfl rfl rfl hyX4_hour ⟨Nat.le_of_ble_eq_true rfl, Nat.le_of_ble_eq_true rfl⟩) hK hF hF.1 rfl rfl hl.1 rfl (Nat.le_of_ble_eq_true rfl) dL_value_18 ⟨Nat.zero_le _, Nat.zero_le _⟩ (fun z3 e3 => ?_)
    have e3 : z3.toInt = a_hour σ t h (2 : Int) := e3
    refine lv_goto (tgt := 25) hx hb dL_value_21 (by decide) ?_
    exact z_ri (v := z3) hx hb hr hlocks (show z3.toInt = valA σ t h from (by unfold valA; first | (rw [if_pos (by assumption)]; exact e3) | (rw [if_neg (by assumption)]; exact e3))) dL_value_25

abbrev rmL_does : Room := { frames := 6, cells := 0, slots := 0, locals := 136 }
theorem hyL_does : yL_does.cls ≠ "java/lang/invoke/MethodHandle" ∧ yL_does.cls ≠ "java/lang/invoke/VarHandle" ∧ (parseMethodDescriptor yL_does.desc).map (fun d => d.parameters.length) = some 2 := by decide +kernel
set_option maxHeartbeats 4000000 in
set_option maxRecDepth 100000 in
theorem kL_does (l : Launch) (G : xG) (z : Nat) (σ : FD) (xv : Int32) (n : Int) (e_xv : xv.toInt = n) (hfx : fdX σ) : Met l yL_does wsL_does rmL_does (va_Pc [.ref z, .int xv] (zPre G (fun H => SFP G H z σ))) (zW (fun v => -5 ≤ v.toInt) (fun H => ∃ n9 : FD, SFP G H z n9 ∧ (fdX n9)) (iv z 112)) 0 0 (iv z 112) := by
  refine z_ofW (cc := cL_does) (maxL := 3) (ret := some .int) (by decide +kernel) rfl (Nat.le_of_ble_eq_true rfl) ?_
  intro p e s m below meth c hx hb hml hr hts hown hlocks hK hP ls hl
  have hF := hP
  have hown : s.vm.findClass RL = some m.cls := hown
  have hl : lv_has ls 3 [(0, .ref z), (1, .int xv)] := hl
  have hS : va_S (iv z 112) s.heap s.heap [] := va_S.rf
  have hok := hfx.1
  refine lv_iload_n hx hb dL_does_0 rfl (lv_at hl 1 rfl) ?_
  refine lv_iconst (v := (4 : Int32)) hx hb dL_does_1 (by decide) ?_
  refine lv_ishr hx hb dL_does_2 ?_
  obtain ⟨a1, e1⟩ : ∃ a : Int, (xv >>> ((4 : Int32) &&& 31)).toInt = a := ⟨_, rfl⟩
  refine lv_iconst (v := (3 : Int32)) hx hb dL_does_3 (by decide) ?_
  refine z_cS (As := [.int (xv >>> ((4 : Int32) &&& 31)), .int (3 : Int32)]) (rest := []) ⟨hx, hb, hml, hown, hts⟩ (kL_low l G (xv >>> ((4 : Int32) &&& 31)) a1 e1 (3 : Int32) (3 : Int) kI_3 (by first | assumption | omega)) (va_cwS 2 hts gL_does_L_low rfl rfl rfl hyL_low ⟨Nat.le_of_ble_eq_true rfl, Nat.le_of_ble_eq_true rfl⟩) hK trivial rfl hl.1 rfl (Nat.le_of_ble_eq_true rfl) dL_does_4 ⟨Nat.zero_le _, Nat.zero_le _⟩ (fun z2 e2 => ?_)
  have e2 : z2.toInt = lowZ (xv >>> ((4 : Int32) &&& 31)) (3 : Int) := e2
  refine lv_istore_n hx hb dL_does_7 rfl hl (by decide) rfl (fun ls hl => ?_)
  have hl : lv_has ls 3 [(2, .int z2), (0, .ref z), (1, .int xv)] := hl
  refine lv_iload_n hx hb dL_does_8 rfl (lv_at hl 2 rfl) ?_
  refine lv_bipush (v := (15 : Int32)) hx hb dL_does_9 (by decide) ?_
  refine lv_iand hx hb dL_does_11 ?_
  obtain ⟨a3, e3⟩ : ∃ a : Int, (xv &&& (15 : Int32)).toInt = a := ⟨_, rfl⟩
  rcases (show a3 < 0 ∨ 8 < a3 ∨ a3 = 0 ∨ a3 = 1 ∨ a3 = 2 ∨ a3 = 3 ∨ a3 = 4 ∨ a3 = 5 ∨ a3 = 6 ∨ a3 = 7 ∨ a3 = 8 from by omega) with c_4 | c_4 | c_4 | c_4 | c_4 | c_4 | c_4 | c_4 | c_4 | c_4 | c_4
  · refine lv_tableOut (tgt := 120) hx hb dL_does_12 (by rw [e3]; omega) (by decide) ?_
    refine lv_aload_n hx hb dL_does_120 rfl (lv_at hl 1 rfl) ?_
    refine lv_iconst (v := (1 : Int32)) hx hb dL_does_121 (by decide) ?_
    refine lv_iload_n hx hb dL_does_122 rfl (lv_at hl 2 rfl) ?_
    refine lv_iconst (v := (4 : Int32)) hx hb dL_does_123 (by decide) ?_
    refine lv_ishr hx hb dL_does_124 ?_
    obtain ⟨a5, e5⟩ : ∃ a : Int, (xv >>> ((4 : Int32) &&& 31)).toInt = a := ⟨_, rfl⟩
    refine lv_iconst (v := (5 : Int32)) hx hb dL_does_125 (by decide) ?_
    refine z_cS (As := [.int (xv >>> ((4 : Int32) &&& 31)), .int (5 : Int32)]) (rest := [.int (1 : Int32), .ref z]) ⟨hx, hb, hml, hown, hts⟩ (kL_low l G (xv >>> ((4 : Int32) &&& 31)) a5 e5 (5 : Int32) (5 : Int) kI_5 (by first | assumption | omega)) (va_cwS 2 hts gL_does_L_low rfl rfl rfl hyL_low ⟨Nat.le_of_ble_eq_true rfl, Nat.le_of_ble_eq_true rfl⟩) hK trivial rfl hl.1 rfl (Nat.le_of_ble_eq_true rfl) dL_does_126 ⟨Nat.zero_le _, Nat.zero_le _⟩ (fun z6 e6 => ?_)
    have e6 : z6.toInt = lowZ (xv >>> ((4 : Int32) &&& 31)) (5 : Int) := e6
    have hlb6 : 0 ≤ (lowZ (xv >>> ((4 : Int32) &&& 31)) (5 : Int)) ∧ (lowZ (xv >>> ((4 : Int32) &&& 31)) (5 : Int)) < (5 : Int) := lowZ_b (by omega)
    refine z_iadd hx hb kI_1 e6 dL_does_129 (by omega) (fun z7 e7 => ?_)
    refine z_cVw (As := [.int z7]) (rest := []) ⟨hx, hb, hml, hown, hts⟩ (kX4_pass l G z σ z7 ((1 : Int) + (lowZ (xv >>> ((4 : Int32) &&& 31)) (5 : Int))) e7 (by first | assumption | omega)) (cwV 1 hts gL_does_X4_pass rfl rfl rfl hyX4_pass ⟨Nat.le_of_ble_eq_true rfl, Nat.le_of_ble_eq_true rfl⟩) hK hF hF.1 rfl rfl hl.1 rfl (Nat.le_of_ble_eq_true rfl) dL_does_130 ⟨Nat.zero_le _, Nat.zero_le _⟩ hS (fun q h => by simp only [iv] at h ⊢; omega) (fun z8 H locs e8 hB hsz hq hS => ?_)
    have hF := hB
    have hF : SFP G H z (s_pass σ ((1 : Int) + (lowZ (xv >>> ((4 : Int32) &&& 31)) (5 : Int)))) := hF
    have e8 : z8.toInt = a_pass σ ((1 : Int) + (lowZ (xv >>> ((4 : Int32) &&& 31)) (5 : Int))) := e8
    exact z_riw (v := z8) hx hb hr hlocks (show -5 ≤ z8.toInt from (by rw [e8]; exact al_pass hok)) ⟨_, hF, (kx_pass hfx)⟩ hS dL_does_133
  · refine lv_tableOut (tgt := 120) hx hb dL_does_12 (by rw [e3]; omega) (by decide) ?_
    refine lv_aload_n hx hb dL_does_120 rfl (lv_at hl 1 rfl) ?_
    refine lv_iconst (v := (1 : Int32)) hx hb dL_does_121 (by decide) ?_
    refine lv_iload_n hx hb dL_does_122 rfl (lv_at hl 2 rfl) ?_
    refine lv_iconst (v := (4 : Int32)) hx hb dL_does_123 (by decide) ?_
    refine lv_ishr hx hb dL_does_124 ?_
    obtain ⟨a9, e9⟩ : ∃ a : Int, (xv >>> ((4 : Int32) &&& 31)).toInt = a := ⟨_, rfl⟩
    refine lv_iconst (v := (5 : Int32)) hx hb dL_does_125 (by decide) ?_
    refine z_cS (As := [.int (xv >>> ((4 : Int32) &&& 31)), .int (5 : Int32)]) (rest := [.int (1 : Int32), .ref z]) ⟨hx, hb, hml, hown, hts⟩ (kL_low l G (xv >>> ((4 : Int32) &&& 31)) a9 e9 (5 : Int32) (5 : Int) kI_5 (by first | assumption | omega)) (va_cwS 2 hts gL_does_L_low rfl rfl rfl hyL_low ⟨Nat.le_of_ble_eq_true rfl, Nat.le_of_ble_eq_true rfl⟩) hK trivial rfl hl.1 rfl (Nat.le_of_ble_eq_true rfl) dL_does_126 ⟨Nat.zero_le _, Nat.zero_le _⟩ (fun z10 e10 => ?_)
    have e10 : z10.toInt = lowZ (xv >>> ((4 : Int32) &&& 31)) (5 : Int) := e10
    have hlb10 : 0 ≤ (lowZ (xv >>> ((4 : Int32) &&& 31)) (5 : Int)) ∧ (lowZ (xv >>> ((4 : Int32) &&& 31)) (5 : Int)) < (5 : Int) := lowZ_b (by omega)
    refine z_iadd hx hb kI_1 e10 dL_does_129 (by omega) (fun z11 e11 => ?_)
    refine z_cVw (As := [.int z11]) (rest := []) ⟨hx, hb, hml, hown, hts⟩ (kX4_pass l G z σ z11 ((1 : Int) + (lowZ (xv >>> ((4 : Int32) &&& 31)) (5 : Int))) e11 (by first | assumption | omega)) (cwV 1 hts gL_does_X4_pass rfl rfl rfl hyX4_pass ⟨Nat.le_of_ble_eq_true rfl, Nat.le_of_ble_eq_true rfl⟩) hK hF hF.1 rfl rfl hl.1 rfl (Nat.le_of_ble_eq_true rfl) dL_does_130 ⟨Nat.zero_le _, Nat.zero_le _⟩ hS (fun q h => by simp only [iv] at h ⊢; omega) (fun z12 H locs e12 hB hsz hq hS => ?_)
    have hF := hB
    have hF : SFP G H z (s_pass σ ((1 : Int) + (lowZ (xv >>> ((4 : Int32) &&& 31)) (5 : Int)))) := hF
    have e12 : z12.toInt = a_pass σ ((1 : Int) + (lowZ (xv >>> ((4 : Int32) &&& 31)) (5 : Int))) := e12
    exact z_riw (v := z12) hx hb hr hlocks (show -5 ≤ z12.toInt from (by rw [e12]; exact al_pass hok)) ⟨_, hF, (kx_pass hfx)⟩ hS dL_does_133
  · refine lv_tableIn (off := 52) (tgt := 64) hx hb dL_does_12 (by rw [e3]; omega) (by rw [e3]; omega) (by rw [e3, c_4]; rfl) (by decide) ?_
    refine lv_aload_n hx hb dL_does_64 rfl (lv_at hl 1 rfl) ?_
    refine lv_iload_n hx hb dL_does_65 rfl (lv_at hl 0 rfl) ?_
    refine lv_iconst (v := (0 : Int32)) hx hb dL_does_66 (by decide) ?_
    refine z_cVw (As := [.int z2, .int (0 : Int32)]) (rest := []) ⟨hx, hb, hml, hown, hts⟩ (kX4_turn l G z σ z2 (lowZ (xv >>> ((4 : Int32) &&& 31)) (3 : Int)) e2 (0 : Int32) (0 : Int) kI_0 (by first | assumption | omega) (by first | assumption | omega)) (cwV 2 hts gL_does_X4_turn rfl rfl rfl hyX4_turn ⟨Nat.le_of_ble_eq_true rfl, Nat.le_of_ble_eq_true rfl⟩) hK hF hF.1 rfl rfl hl.1 rfl (Nat.le_of_ble_eq_true rfl) dL_does_67 ⟨Nat.zero_le _, Nat.zero_le _⟩ hS (fun q h => by simp only [iv] at h ⊢; omega) (fun z13 H locs e13 hB hsz hq hS => ?_)
    have hF := hB
    have hF : SFP G H z (s_turn σ (lowZ (xv >>> ((4 : Int32) &&& 31)) (3 : Int)) (0 : Int) (0 : Int32)) := hF
    have e13 : z13.toInt = a_turn σ (lowZ (xv >>> ((4 : Int32) &&& 31)) (3 : Int)) (0 : Int) (0 : Int32) := e13
    exact z_riw (v := z13) hx hb hr hlocks (show -5 ≤ z13.toInt from (by rw [e13]; exact al_turn)) ⟨_, hF, (kx_turn hfx rfl (by omega))⟩ hS dL_does_70
  · refine lv_tableIn (off := 52) (tgt := 64) hx hb dL_does_12 (by rw [e3]; omega) (by rw [e3]; omega) (by rw [e3, c_4]; rfl) (by decide) ?_
    refine lv_aload_n hx hb dL_does_64 rfl (lv_at hl 1 rfl) ?_
    refine lv_iload_n hx hb dL_does_65 rfl (lv_at hl 0 rfl) ?_
    refine lv_iconst (v := (0 : Int32)) hx hb dL_does_66 (by decide) ?_
    refine z_cVw (As := [.int z2, .int (0 : Int32)]) (rest := []) ⟨hx, hb, hml, hown, hts⟩ (kX4_turn l G z σ z2 (lowZ (xv >>> ((4 : Int32) &&& 31)) (3 : Int)) e2 (0 : Int32) (0 : Int) kI_0 (by first | assumption | omega) (by first | assumption | omega)) (cwV 2 hts gL_does_X4_turn rfl rfl rfl hyX4_turn ⟨Nat.le_of_ble_eq_true rfl, Nat.le_of_ble_eq_true rfl⟩) hK hF hF.1 rfl rfl hl.1 rfl (Nat.le_of_ble_eq_true rfl) dL_does_67 ⟨Nat.zero_le _, Nat.zero_le _⟩ hS (fun q h => by simp only [iv] at h ⊢; omega) (fun z14 H locs e14 hB hsz hq hS => ?_)
    have hF := hB
    have hF : SFP G H z (s_turn σ (lowZ (xv >>> ((4 : Int32) &&& 31)) (3 : Int)) (0 : Int) (0 : Int32)) := hF
    have e14 : z14.toInt = a_turn σ (lowZ (xv >>> ((4 : Int32) &&& 31)) (3 : Int)) (0 : Int) (0 : Int32) := e14
    exact z_riw (v := z14) hx hb hr hlocks (show -5 ≤ z14.toInt from (by rw [e14]; exact al_turn)) ⟨_, hF, (kx_turn hfx rfl (by omega))⟩ hS dL_does_70
  · refine lv_tableIn (off := 59) (tgt := 71) hx hb dL_does_12 (by rw [e3]; omega) (by rw [e3]; omega) (by rw [e3, c_4]; rfl) (by decide) ?_
    refine lv_aload_n hx hb dL_does_71 rfl (lv_at hl 1 rfl) ?_
    refine lv_iload_n hx hb dL_does_72 rfl (lv_at hl 0 rfl) ?_
    refine lv_iconst (v := (1 : Int32)) hx hb dL_does_73 (by decide) ?_
    refine z_cVw (As := [.int z2, .int (1 : Int32)]) (rest := []) ⟨hx, hb, hml, hown, hts⟩ (kX4_turn l G z σ z2 (lowZ (xv >>> ((4 : Int32) &&& 31)) (3 : Int)) e2 (1 : Int32) (1 : Int) kI_1 (by first | assumption | omega) (by first | assumption | omega)) (cwV 2 hts gL_does_X4_turn rfl rfl rfl hyX4_turn ⟨Nat.le_of_ble_eq_true rfl, Nat.le_of_ble_eq_true rfl⟩) hK hF hF.1 rfl rfl hl.1 rfl (Nat.le_of_ble_eq_true rfl) dL_does_74 ⟨Nat.zero_le _, Nat.zero_le _⟩ hS (fun q h => by simp only [iv] at h ⊢; omega) (fun z15 H locs e15 hB hsz hq hS => ?_)
    have hF := hB
    have hF : SFP G H z (s_turn σ (lowZ (xv >>> ((4 : Int32) &&& 31)) (3 : Int)) (1 : Int) (1 : Int32)) := hF
    have e15 : z15.toInt = a_turn σ (lowZ (xv >>> ((4 : Int32) &&& 31)) (3 : Int)) (1 : Int) (1 : Int32) := e15
    exact z_riw (v := z15) hx hb hr hlocks (show -5 ≤ z15.toInt from (by rw [e15]; exact al_turn)) ⟨_, hF, (kx_turn hfx rfl (by omega))⟩ hS dL_does_77
  · refine lv_tableIn (off := 59) (tgt := 71) hx hb dL_does_12 (by rw [e3]; omega) (by rw [e3]; omega) (by rw [e3, c_4]; rfl) (by decide) ?_
    refine lv_aload_n hx hb dL_does_71 rfl (lv_at hl 1 rfl) ?_
    refine lv_iload_n hx hb dL_does_72 rfl (lv_at hl 0 rfl) ?_
    refine lv_iconst (v := (1 : Int32)) hx hb dL_does_73 (by decide) ?_
    refine z_cVw (As := [.int z2, .int (1 : Int32)]) (rest := []) ⟨hx, hb, hml, hown, hts⟩ (kX4_turn l G z σ z2 (lowZ (xv >>> ((4 : Int32) &&& 31)) (3 : Int)) e2 (1 : Int32) (1 : Int) kI_1 (by first | assumption | omega) (by first | assumption | omega)) (cwV 2 hts gL_does_X4_turn rfl rfl rfl hyX4_turn ⟨Nat.le_of_ble_eq_true rfl, Nat.le_of_ble_eq_true rfl⟩) hK hF hF.1 rfl rfl hl.1 rfl (Nat.le_of_ble_eq_true rfl) dL_does_74 ⟨Nat.zero_le _, Nat.zero_le _⟩ hS (fun q h => by simp only [iv] at h ⊢; omega) (fun z16 H locs e16 hB hsz hq hS => ?_)
    have hF := hB
    have hF : SFP G H z (s_turn σ (lowZ (xv >>> ((4 : Int32) &&& 31)) (3 : Int)) (1 : Int) (1 : Int32)) := hF
    have e16 : z16.toInt = a_turn σ (lowZ (xv >>> ((4 : Int32) &&& 31)) (3 : Int)) (1 : Int) (1 : Int32) := e16
    exact z_riw (v := z16) hx hb hr hlocks (show -5 ≤ z16.toInt from (by rw [e16]; exact al_turn)) ⟨_, hF, (kx_turn hfx rfl (by omega))⟩ hS dL_does_77
  · refine lv_tableIn (off := 59) (tgt := 71) hx hb dL_does_12 (by rw [e3]; omega) (by rw [e3]; omega) (by rw [e3, c_4]; rfl) (by decide) ?_
    refine lv_aload_n hx hb dL_does_71 rfl (lv_at hl 1 rfl) ?_
    refine lv_iload_n hx hb dL_does_72 rfl (lv_at hl 0 rfl) ?_
    refine lv_iconst (v := (1 : Int32)) hx hb dL_does_73 (by decide) ?_
    refine z_cVw (As := [.int z2, .int (1 : Int32)]) (rest := []) ⟨hx, hb, hml, hown, hts⟩ (kX4_turn l G z σ z2 (lowZ (xv >>> ((4 : Int32) &&& 31)) (3 : Int)) e2 (1 : Int32) (1 : Int) kI_1 (by first | assumption | omega) (by first | assumption | omega)) (cwV 2 hts gL_does_X4_turn rfl rfl rfl hyX4_turn ⟨Nat.le_of_ble_eq_true rfl, Nat.le_of_ble_eq_true rfl⟩) hK hF hF.1 rfl rfl hl.1 rfl (Nat.le_of_ble_eq_true rfl) dL_does_74 ⟨Nat.zero_le _, Nat.zero_le _⟩ hS (fun q h => by simp only [iv] at h ⊢; omega) (fun z17 H locs e17 hB hsz hq hS => ?_)
    have hF := hB
    have hF : SFP G H z (s_turn σ (lowZ (xv >>> ((4 : Int32) &&& 31)) (3 : Int)) (1 : Int) (1 : Int32)) := hF
    have e17 : z17.toInt = a_turn σ (lowZ (xv >>> ((4 : Int32) &&& 31)) (3 : Int)) (1 : Int) (1 : Int32) := e17
    exact z_riw (v := z17) hx hb hr hlocks (show -5 ≤ z17.toInt from (by rw [e17]; exact al_turn)) ⟨_, hF, (kx_turn hfx rfl (by omega))⟩ hS dL_does_77
  · refine lv_tableIn (off := 66) (tgt := 78) hx hb dL_does_12 (by rw [e3]; omega) (by rw [e3]; omega) (by rw [e3, c_4]; rfl) (by decide) ?_
    refine lv_aload_n hx hb dL_does_78 rfl (lv_at hl 1 rfl) ?_
    refine lv_iload_n hx hb dL_does_79 rfl (lv_at hl 0 rfl) ?_
    refine z_cVw (As := [.int z2]) (rest := []) ⟨hx, hb, hml, hown, hts⟩ (kX4_clean l G z σ z2 (lowZ (xv >>> ((4 : Int32) &&& 31)) (3 : Int)) e2 (by first | assumption | omega)) (cwV 1 hts gL_does_X4_clean rfl rfl rfl hyX4_clean ⟨Nat.le_of_ble_eq_true rfl, Nat.le_of_ble_eq_true rfl⟩) hK hF hF.1 rfl rfl hl.1 rfl (Nat.le_of_ble_eq_true rfl) dL_does_80 ⟨Nat.zero_le _, Nat.zero_le _⟩ hS (fun q h => by simp only [iv] at h ⊢; omega) (fun z18 H locs e18 hB hsz hq hS => ?_)
    have hF := hB
    have hF : SFP G H z (s_clean σ (lowZ (xv >>> ((4 : Int32) &&& 31)) (3 : Int))) := hF
    have e18 : z18.toInt = a_clean σ (lowZ (xv >>> ((4 : Int32) &&& 31)) (3 : Int)) := e18
    exact z_riw (v := z18) hx hb hr hlocks (show -5 ≤ z18.toInt from (by rw [e18]; exact al_clean hok)) ⟨_, hF, (kx_clean hfx)⟩ hS dL_does_83
  · refine lv_tableIn (off := 72) (tgt := 84) hx hb dL_does_12 (by rw [e3]; omega) (by rw [e3]; omega) (by rw [e3, c_4]; rfl) (by decide) ?_
    refine lv_aload_n hx hb dL_does_84 rfl (lv_at hl 1 rfl) ?_
    refine lv_iload_n hx hb dL_does_85 rfl (lv_at hl 0 rfl) ?_
    refine z_cVw (As := [.int z2]) (rest := []) ⟨hx, hb, hml, hown, hts⟩ (kX4_level l G z σ z2 (lowZ (xv >>> ((4 : Int32) &&& 31)) (3 : Int)) e2 (by first | assumption | omega)) (cwV 1 hts gL_does_X4_level rfl rfl rfl hyX4_level ⟨Nat.le_of_ble_eq_true rfl, Nat.le_of_ble_eq_true rfl⟩) hK hF hF.1 rfl rfl hl.1 rfl (Nat.le_of_ble_eq_true rfl) dL_does_86 ⟨Nat.zero_le _, Nat.zero_le _⟩ hS (fun q h => by simp only [iv] at h ⊢; omega) (fun z19 H locs e19 hB hsz hq hS => ?_)
    have hF := hB
    have hF : SFP G H z (s_level σ (lowZ (xv >>> ((4 : Int32) &&& 31)) (3 : Int))) := hF
    have e19 : z19.toInt = a_level σ (lowZ (xv >>> ((4 : Int32) &&& 31)) (3 : Int)) := e19
    exact z_riw (v := z19) hx hb hr hlocks (show -5 ≤ z19.toInt from (by rw [e19]; exact al_level hok)) ⟨_, hF, (kx_level hfx)⟩ hS dL_does_89
  · refine lv_tableIn (off := 72) (tgt := 84) hx hb dL_does_12 (by rw [e3]; omega) (by rw [e3]; omega) (by rw [e3, c_4]; rfl) (by decide) ?_
    refine lv_aload_n hx hb dL_does_84 rfl (lv_at hl 1 rfl) ?_
    refine lv_iload_n hx hb dL_does_85 rfl (lv_at hl 0 rfl) ?_
    refine z_cVw (As := [.int z2]) (rest := []) ⟨hx, hb, hml, hown, hts⟩ (kX4_level l G z σ z2 (lowZ (xv >>> ((4 : Int32) &&& 31)) (3 : Int)) e2 (by first | assumption | omega)) (cwV 1 hts gL_does_X4_level rfl rfl rfl hyX4_level ⟨Nat.le_of_ble_eq_true rfl, Nat.le_of_ble_eq_true rfl⟩) hK hF hF.1 rfl rfl hl.1 rfl (Nat.le_of_ble_eq_true rfl) dL_does_86 ⟨Nat.zero_le _, Nat.zero_le _⟩ hS (fun q h => by simp only [iv] at h ⊢; omega) (fun z20 H locs e20 hB hsz hq hS => ?_)
    have hF := hB
    have hF : SFP G H z (s_level σ (lowZ (xv >>> ((4 : Int32) &&& 31)) (3 : Int))) := hF
    have e20 : z20.toInt = a_level σ (lowZ (xv >>> ((4 : Int32) &&& 31)) (3 : Int)) := e20
    exact z_riw (v := z20) hx hb hr hlocks (show -5 ≤ z20.toInt from (by rw [e20]; exact al_level hok)) ⟨_, hF, (kx_level hfx)⟩ hS dL_does_89
  · refine lv_tableIn (off := 78) (tgt := 90) hx hb dL_does_12 (by rw [e3]; omega) (by rw [e3]; omega) (by rw [e3, c_4]; rfl) (by decide) ?_
    refine lv_aload_n hx hb dL_does_90 rfl (lv_at hl 1 rfl) ?_
    refine lv_iload_n hx hb dL_does_91 rfl (lv_at hl 0 rfl) ?_
    refine lv_iload_n hx hb dL_does_92 rfl (lv_at hl 2 rfl) ?_
    refine lv_bipush (v := (6 : Int32)) hx hb dL_does_93 (by decide) ?_
    refine lv_ishr hx hb dL_does_95 ?_
    obtain ⟨a21, e21⟩ : ∃ a : Int, (xv >>> ((6 : Int32) &&& 31)).toInt = a := ⟨_, rfl⟩
    refine lv_iconst (v := (1 : Int32)) hx hb dL_does_96 (by decide) ?_
    refine lv_iand hx hb dL_does_97 ?_
    obtain ⟨a22, e22⟩ : ∃ a : Int, ((xv >>> ((6 : Int32) &&& 31)) &&& (1 : Int32)).toInt = a := ⟨_, rfl⟩
    have hb22 : 0 ≤ a22 ∧ a22 ≤ 1 := by rw [← e22]; exact and1_b _
    refine lv_iconst (v := (1 : Int32)) hx hb dL_does_98 (by decide) ?_
    refine z_icmp_ne (tgt := 106) hx hb e22 kI_1 dL_does_99 (by decide) (fun c_23 => ?_) (fun c_23 => ?_)
    · refine lv_iconst (v := (0 : Int32)) hx hb dL_does_106 (by decide) ?_
      refine lv_iload_n hx hb dL_does_107 rfl (lv_at hl 2 rfl) ?_
      refine lv_bipush (v := (7 : Int32)) hx hb dL_does_108 (by decide) ?_
      refine lv_ishr hx hb dL_does_110 ?_
      obtain ⟨a24, e24⟩ : ∃ a : Int, (xv >>> ((7 : Int32) &&& 31)).toInt = a := ⟨_, rfl⟩
      refine lv_bipush (v := (21 : Int32)) hx hb dL_does_111 (by decide) ?_
      refine z_cS (As := [.int (xv >>> ((7 : Int32) &&& 31)), .int (21 : Int32)]) (rest := [.int (0 : Int32), .int z2, .ref z]) ⟨hx, hb, hml, hown, hts⟩ (kL_low l G (xv >>> ((7 : Int32) &&& 31)) a24 e24 (21 : Int32) (21 : Int) kI_21 (by first | assumption | omega)) (va_cwS 2 hts gL_does_L_low rfl rfl rfl hyL_low ⟨Nat.le_of_ble_eq_true rfl, Nat.le_of_ble_eq_true rfl⟩) hK trivial rfl hl.1 rfl (Nat.le_of_ble_eq_true rfl) dL_does_113 ⟨Nat.zero_le _, Nat.zero_le _⟩ (fun z25 e25 => ?_)
      have e25 : z25.toInt = lowZ (xv >>> ((7 : Int32) &&& 31)) (21 : Int) := e25
      refine z_cVw (As := [.int z2, .int (0 : Int32), .int z25]) (rest := []) ⟨hx, hb, hml, hown, hts⟩ (kX4_setRate l G z σ z2 (lowZ (xv >>> ((4 : Int32) &&& 31)) (3 : Int)) e2 (0 : Int32) (0 : Int) kI_0 z25 (lowZ (xv >>> ((7 : Int32) &&& 31)) (21 : Int)) e25 (by first | assumption | omega) (by first | assumption | omega)) (cwV 3 hts gL_does_X4_setRate rfl rfl rfl hyX4_setRate ⟨Nat.le_of_ble_eq_true rfl, Nat.le_of_ble_eq_true rfl⟩) hK hF hF.1 rfl rfl hl.1 rfl (Nat.le_of_ble_eq_true rfl) dL_does_116 ⟨Nat.zero_le _, Nat.zero_le _⟩ hS (fun q h => by simp only [iv] at h ⊢; omega) (fun z26 H locs e26 hB hsz hq hS => ?_)
      have hF := hB
      have hF : SFP G H z (s_setRate σ (lowZ (xv >>> ((4 : Int32) &&& 31)) (3 : Int)) (0 : Int) (lowZ (xv >>> ((7 : Int32) &&& 31)) (21 : Int)) z25) := hF
      have e26 : z26.toInt = a_setRate σ (lowZ (xv >>> ((4 : Int32) &&& 31)) (3 : Int)) (0 : Int) (lowZ (xv >>> ((7 : Int32) &&& 31)) (21 : Int)) := e26
      exact z_riw (v := z26) hx hb hr hlocks (show -5 ≤ z26.toInt from (by rw [e26]; exact al_setRate hok)) ⟨_, hF, (kx_setRate hfx (by assumption))⟩ hS dL_does_119
    · refine lv_iconst (v := (1 : Int32)) hx hb dL_does_102 (by decide) ?_
      refine lv_goto (tgt := 107) hx hb dL_does_103 (by decide) ?_
      refine lv_iload_n hx hb dL_does_107 rfl (lv_at hl 2 rfl) ?_
      refine lv_bipush (v := (7 : Int32)) hx hb dL_does_108 (by decide) ?_
      refine lv_ishr hx hb dL_does_110 ?_
      obtain ⟨a27, e27⟩ : ∃ a : Int, (xv >>> ((7 : Int32) &&& 31)).toInt = a := ⟨_, rfl⟩
      refine lv_bipush (v := (21 : Int32)) hx hb dL_does_111 (by decide) ?_
      refine z_cS (As := [.int (xv >>> ((7 : Int32) &&& 31)), .int (21 : Int32)]) (rest := [.int (1 : Int32), .int z2, .ref z]) ⟨hx, hb, hml, hown, hts⟩ (kL_low l G (xv >>> ((7 : Int32) &&& 31)) a27 e27 (21 : Int32) (21 : Int) kI_21 (by first | assumption | omega)) (va_cwS 2 hts gL_does_L_low rfl rfl rfl hyL_low ⟨Nat.le_of_ble_eq_true rfl, Nat.le_of_ble_eq_true rfl⟩) hK trivial rfl hl.1 rfl (Nat.le_of_ble_eq_true rfl) dL_does_113 ⟨Nat.zero_le _, Nat.zero_le _⟩ (fun z28 e28 => ?_)
      have e28 : z28.toInt = lowZ (xv >>> ((7 : Int32) &&& 31)) (21 : Int) := e28
      refine z_cVw (As := [.int z2, .int (1 : Int32), .int z28]) (rest := []) ⟨hx, hb, hml, hown, hts⟩ (kX4_setRate l G z σ z2 (lowZ (xv >>> ((4 : Int32) &&& 31)) (3 : Int)) e2 (1 : Int32) (1 : Int) kI_1 z28 (lowZ (xv >>> ((7 : Int32) &&& 31)) (21 : Int)) e28 (by first | assumption | omega) (by first | assumption | omega)) (cwV 3 hts gL_does_X4_setRate rfl rfl rfl hyX4_setRate ⟨Nat.le_of_ble_eq_true rfl, Nat.le_of_ble_eq_true rfl⟩) hK hF hF.1 rfl rfl hl.1 rfl (Nat.le_of_ble_eq_true rfl) dL_does_116 ⟨Nat.zero_le _, Nat.zero_le _⟩ hS (fun q h => by simp only [iv] at h ⊢; omega) (fun z29 H locs e29 hB hsz hq hS => ?_)
      have hF := hB
      have hF : SFP G H z (s_setRate σ (lowZ (xv >>> ((4 : Int32) &&& 31)) (3 : Int)) (1 : Int) (lowZ (xv >>> ((7 : Int32) &&& 31)) (21 : Int)) z28) := hF
      have e29 : z29.toInt = a_setRate σ (lowZ (xv >>> ((4 : Int32) &&& 31)) (3 : Int)) (1 : Int) (lowZ (xv >>> ((7 : Int32) &&& 31)) (21 : Int)) := e29
      exact z_riw (v := z29) hx hb hr hlocks (show -5 ≤ z29.toInt from (by rw [e29]; exact al_setRate hok)) ⟨_, hF, (kx_setRate hfx (by assumption))⟩ hS dL_does_119

abbrev rmL_begin : Room := { frames := 7, cells := 0, slots := 0, locals := 156 }
theorem hyL_begin : yL_begin.cls ≠ "java/lang/invoke/MethodHandle" ∧ yL_begin.cls ≠ "java/lang/invoke/VarHandle" ∧ (parseMethodDescriptor yL_begin.desc).map (fun d => d.parameters.length) = some 3 := by decide +kernel
set_option maxHeartbeats 4000000 in
set_option maxRecDepth 100000 in
theorem kL_begin (l : Launch) (G : xG) (z : Nat) (σ : FD) (xv : Int32) (n : Int) (e_xv : xv.toInt = n) (xw : Int32) (k : Int) (e_xw : xw.toInt = k) (hfx : fdX σ) : Met l yL_begin wsL_begin rmL_begin (va_Pc [.ref z, .int xv, .int xw] (zPre G (fun H => SFP G H z σ))) (zV (fun H => ∃ n9 : FD, SFP G H z n9 ∧ (fdX n9)) (iv z 112)) 0 0 (iv z 112) := by
  refine z_ofW (cc := cL_begin) (maxL := 4) (ret := none) (by decide +kernel) rfl (Nat.le_of_ble_eq_true rfl) ?_
  intro p e s m below meth c hx hb hml hr hts hown hlocks hK hP ls hl
  have hF := hP
  have hown : s.vm.findClass RL = some m.cls := hown
  have hl : lv_has ls 4 [(0, .ref z), (1, .int xv), (2, .int xw)] := hl
  have hS : va_S (iv z 112) s.heap s.heap [] := va_S.rf
  have hok := hfx.1
  refine lv_aload_n hx hb dL_begin_0 rfl (lv_at hl 0 rfl) ?_
  refine lv_iconst (v := (0 : Int32)) hx hb dL_begin_1 (by decide) ?_
  refine lv_sipush (v := (200 : Int32)) hx hb dL_begin_2 (by decide) ?_
  refine lv_iload_n hx hb dL_begin_5 rfl (lv_at hl 1 rfl) ?_
  refine lv_sipush (v := (2800 : Int32)) hx hb dL_begin_6 (by decide) ?_
  refine z_cS (As := [.int xv, .int (2800 : Int32)]) (rest := [.int (200 : Int32), .int (0 : Int32), .ref z]) ⟨hx, hb, hml, hown, hts⟩ (kL_low l G xv n e_xv (2800 : Int32) (2800 : Int) kI_2800 (by first | assumption | omega)) (va_cwS 2 hts gL_begin_L_low rfl rfl rfl hyL_low ⟨Nat.le_of_ble_eq_true rfl, Nat.le_of_ble_eq_true rfl⟩) hK trivial rfl hl.1 rfl (Nat.le_of_ble_eq_true rfl) dL_begin_9 ⟨Nat.zero_le _, Nat.zero_le _⟩ (fun z1 e1 => ?_)
  have e1 : z1.toInt = lowZ xv (2800 : Int) := e1
  have hlb1 : 0 ≤ (lowZ xv (2800 : Int)) ∧ (lowZ xv (2800 : Int)) < (2800 : Int) := lowZ_b (by omega)
  refine z_iadd hx hb kI_200 e1 dL_begin_12 (by omega) (fun z2 e2 => ?_)
  refine lv_iconst (v := (2 : Int32)) hx hb dL_begin_13 (by decide) ?_
  refine lv_iload_n hx hb dL_begin_14 rfl (lv_at hl 1 rfl) ?_
  refine lv_bipush (v := (7 : Int32)) hx hb dL_begin_15 (by decide) ?_
  refine lv_ishr hx hb dL_begin_17 ?_
  obtain ⟨a3, e3⟩ : ∃ a : Int, (xv >>> ((7 : Int32) &&& 31)).toInt = a := ⟨_, rfl⟩
  refine lv_bipush (v := (47 : Int32)) hx hb dL_begin_18 (by decide) ?_
  refine z_cS (As := [.int (xv >>> ((7 : Int32) &&& 31)), .int (47 : Int32)]) (rest := [.int (2 : Int32), .int z2, .int (0 : Int32), .ref z]) ⟨hx, hb, hml, hown, hts⟩ (kL_low l G (xv >>> ((7 : Int32) &&& 31)) a3 e3 (47 : Int32) (47 : Int) kI_47 (by first | assumption | omega)) (va_cwS 2 hts gL_begin_L_low rfl rfl rfl hyL_low ⟨Nat.le_of_ble_eq_true rfl, Nat.le_of_ble_eq_true rfl⟩) hK trivial rfl hl.1 rfl (Nat.le_of_ble_eq_true rfl) dL_begin_20 ⟨Nat.zero_le _, Nat.zero_le _⟩ (fun z4 e4 => ?_)
  have e4 : z4.toInt = lowZ (xv >>> ((7 : Int32) &&& 31)) (47 : Int) := e4
  have hlb4 : 0 ≤ (lowZ (xv >>> ((7 : Int32) &&& 31)) (47 : Int)) ∧ (lowZ (xv >>> ((7 : Int32) &&& 31)) (47 : Int)) < (47 : Int) := lowZ_b (by omega)
  refine z_iadd hx hb kI_2 e4 dL_begin_23 (by omega) (fun z5 e5 => ?_)
  refine lv_iload_n hx hb dL_begin_24 rfl (lv_at hl 1 rfl) ?_
  refine lv_bipush (v := (13 : Int32)) hx hb dL_begin_25 (by decide) ?_
  refine lv_ishr hx hb dL_begin_27 ?_
  obtain ⟨a6, e6⟩ : ∃ a : Int, (xv >>> ((13 : Int32) &&& 31)).toInt = a := ⟨_, rfl⟩
  refine lv_bipush (v := (48 : Int32)) hx hb dL_begin_28 (by decide) ?_
  refine z_cS (As := [.int (xv >>> ((13 : Int32) &&& 31)), .int (48 : Int32)]) (rest := [.int z5, .int z2, .int (0 : Int32), .ref z]) ⟨hx, hb, hml, hown, hts⟩ (kL_low l G (xv >>> ((13 : Int32) &&& 31)) a6 e6 (48 : Int32) (48 : Int) kI_48 (by first | assumption | omega)) (va_cwS 2 hts gL_begin_L_low rfl rfl rfl hyL_low ⟨Nat.le_of_ble_eq_true rfl, Nat.le_of_ble_eq_true rfl⟩) hK trivial rfl hl.1 rfl (Nat.le_of_ble_eq_true rfl) dL_begin_30 ⟨Nat.zero_le _, Nat.zero_le _⟩ (fun z7 e7 => ?_)
  have e7 : z7.toInt = lowZ (xv >>> ((13 : Int32) &&& 31)) (48 : Int) := e7
  have hlb7 : 0 ≤ (lowZ (xv >>> ((13 : Int32) &&& 31)) (48 : Int)) ∧ (lowZ (xv >>> ((13 : Int32) &&& 31)) (48 : Int)) < (48 : Int) := lowZ_b (by omega)
  refine z_cVw (As := [.int (0 : Int32), .int z2, .int z5, .int z7]) (rest := []) ⟨hx, hb, hml, hown, hts⟩ (kX4_setWave l G z σ (0 : Int32) (0 : Int) kI_0 z2 ((200 : Int) + (lowZ xv (2800 : Int))) e2 z5 ((2 : Int) + (lowZ (xv >>> ((7 : Int32) &&& 31)) (47 : Int))) e5 z7 (lowZ (xv >>> ((13 : Int32) &&& 31)) (48 : Int)) e7 (by first | assumption | omega)) (cwV 4 hts gL_begin_X4_setWave rfl rfl rfl hyX4_setWave ⟨Nat.le_of_ble_eq_true rfl, Nat.le_of_ble_eq_true rfl⟩) hK hF hF.1 rfl rfl hl.1 rfl (Nat.le_of_ble_eq_true rfl) dL_begin_33 ⟨Nat.zero_le _, Nat.zero_le _⟩ hS (fun q h => by simp only [iv] at h ⊢; omega) (fun z8 H locs e8 hB hsz hq hS => ?_)
  have hF := hB
  have hF : SFP G H z (s_setWave σ (0 : Int) ((200 : Int) + (lowZ xv (2800 : Int))) ((2 : Int) + (lowZ (xv >>> ((7 : Int32) &&& 31)) (47 : Int))) (lowZ (xv >>> ((13 : Int32) &&& 31)) (48 : Int)) z2 z5 z7) := hF
  have e8 : z8.toInt = a_setWave σ (0 : Int) ((200 : Int) + (lowZ xv (2800 : Int))) ((2 : Int) + (lowZ (xv >>> ((7 : Int32) &&& 31)) (47 : Int))) (lowZ (xv >>> ((13 : Int32) &&& 31)) (48 : Int)) z2 z5 z7 := e8
  obtain ⟨σ1, hF, hfx, hok⟩ : ∃ x : FD, SFP G H z x ∧ fdX x ∧ fdOk x := ⟨_, hF, kx_setWave hfx (by assumption) (by assumption) (by assumption), (kx_setWave hfx (by assumption) (by assumption) (by assumption)).1⟩
  refine lv_istore_n hx hb dL_begin_36 rfl hl (by decide) rfl (fun ls hl => ?_)
  have hl : lv_has ls 4 [(3, .int z8), (0, .ref z), (1, .int xv), (2, .int xw)] := hl
  refine lv_aload_n hx hb dL_begin_37 rfl (lv_at hl 1 rfl) ?_
  refine lv_iconst (v := (1 : Int32)) hx hb dL_begin_38 (by decide) ?_
  refine lv_iload_n hx hb dL_begin_39 rfl (lv_at hl 3 rfl) ?_
  refine lv_sipush (v := (1000 : Int32)) hx hb dL_begin_40 (by decide) ?_
  refine z_cS (As := [.int xw, .int (1000 : Int32)]) (rest := [.int (1 : Int32), .ref z]) ⟨hx, hb, hml, hown, hts⟩ (kL_low l G xw k e_xw (1000 : Int32) (1000 : Int) kI_1000 (by first | assumption | omega)) (va_cwS 2 hts gL_begin_L_low rfl rfl rfl hyL_low ⟨Nat.le_of_ble_eq_true rfl, Nat.le_of_ble_eq_true rfl⟩) hK trivial rfl hl.1 rfl (Nat.le_of_ble_eq_true rfl) dL_begin_43 ⟨Nat.zero_le _, Nat.zero_le _⟩ (fun z9 e9 => ?_)
  have e9 : z9.toInt = lowZ xw (1000 : Int) := e9
  have hlb9 : 0 ≤ (lowZ xw (1000 : Int)) ∧ (lowZ xw (1000 : Int)) < (1000 : Int) := lowZ_b (by omega)
  refine lv_iconst (v := (2 : Int32)) hx hb dL_begin_46 (by decide) ?_
  refine lv_iload_n hx hb dL_begin_47 rfl (lv_at hl 3 rfl) ?_
  refine lv_bipush (v := (7 : Int32)) hx hb dL_begin_48 (by decide) ?_
  refine lv_ishr hx hb dL_begin_50 ?_
  obtain ⟨a10, e10⟩ : ∃ a : Int, (xw >>> ((7 : Int32) &&& 31)).toInt = a := ⟨_, rfl⟩
  refine lv_bipush (v := (47 : Int32)) hx hb dL_begin_51 (by decide) ?_
  refine z_cS (As := [.int (xw >>> ((7 : Int32) &&& 31)), .int (47 : Int32)]) (rest := [.int (2 : Int32), .int z9, .int (1 : Int32), .ref z]) ⟨hx, hb, hml, hown, hts⟩ (kL_low l G (xw >>> ((7 : Int32) &&& 31)) a10 e10 (47 : Int32) (47 : Int) kI_47 (by first | assumption | omega)) (va_cwS 2 hts gL_begin_L_low rfl rfl rfl hyL_low ⟨Nat.le_of_ble_eq_true rfl, Nat.le_of_ble_eq_true rfl⟩) hK trivial rfl hl.1 rfl (Nat.le_of_ble_eq_true rfl) dL_begin_53 ⟨Nat.zero_le _, Nat.zero_le _⟩ (fun z11 e11 => ?_)
  have e11 : z11.toInt = lowZ (xw >>> ((7 : Int32) &&& 31)) (47 : Int) := e11
  have hlb11 : 0 ≤ (lowZ (xw >>> ((7 : Int32) &&& 31)) (47 : Int)) ∧ (lowZ (xw >>> ((7 : Int32) &&& 31)) (47 : Int)) < (47 : Int) := lowZ_b (by omega)
  refine z_iadd hx hb kI_2 e11 dL_begin_56 (by omega) (fun z12 e12 => ?_)
  refine lv_iload_n hx hb dL_begin_57 rfl (lv_at hl 3 rfl) ?_
  refine lv_bipush (v := (13 : Int32)) hx hb dL_begin_58 (by decide) ?_
  refine lv_ishr hx hb dL_begin_60 ?_
  obtain ⟨a13, e13⟩ : ∃ a : Int, (xw >>> ((13 : Int32) &&& 31)).toInt = a := ⟨_, rfl⟩
  refine lv_bipush (v := (48 : Int32)) hx hb dL_begin_61 (by decide) ?_
  refine z_cS (As := [.int (xw >>> ((13 : Int32) &&& 31)), .int (48 : Int32)]) (rest := [.int z12, .int z9, .int (1 : Int32), .ref z]) ⟨hx, hb, hml, hown, hts⟩ (kL_low l G (xw >>> ((13 : Int32) &&& 31)) a13 e13 (48 : Int32) (48 : Int) kI_48 (by first | assumption | omega)) (va_cwS 2 hts gL_begin_L_low rfl rfl rfl hyL_low ⟨Nat.le_of_ble_eq_true rfl, Nat.le_of_ble_eq_true rfl⟩) hK trivial rfl hl.1 rfl (Nat.le_of_ble_eq_true rfl) dL_begin_63 ⟨Nat.zero_le _, Nat.zero_le _⟩ (fun z14 e14 => ?_)
  have e14 : z14.toInt = lowZ (xw >>> ((13 : Int32) &&& 31)) (48 : Int) := e14
  have hlb14 : 0 ≤ (lowZ (xw >>> ((13 : Int32) &&& 31)) (48 : Int)) ∧ (lowZ (xw >>> ((13 : Int32) &&& 31)) (48 : Int)) < (48 : Int) := lowZ_b (by omega)
  refine z_cVw (As := [.int (1 : Int32), .int z9, .int z12, .int z14]) (rest := []) ⟨hx, hb, hml, hown, hts⟩ (kX4_setWave l G z σ1 (1 : Int32) (1 : Int) kI_1 z9 (lowZ xw (1000 : Int)) e9 z12 ((2 : Int) + (lowZ (xw >>> ((7 : Int32) &&& 31)) (47 : Int))) e12 z14 (lowZ (xw >>> ((13 : Int32) &&& 31)) (48 : Int)) e14 (by first | assumption | omega)) (cwV 4 hts gL_begin_X4_setWave rfl rfl rfl hyX4_setWave ⟨Nat.le_of_ble_eq_true rfl, Nat.le_of_ble_eq_true rfl⟩) hK hF hF.1 rfl rfl hl.1 rfl (Nat.le_of_ble_eq_true rfl) dL_begin_66 ⟨Nat.zero_le _, Nat.zero_le _⟩ hS (fun q h => by simp only [iv] at h ⊢; omega) (fun z15 H locs e15 hB hsz hq hS => ?_)
  have hF := hB
  have hF : SFP G H z (s_setWave σ1 (1 : Int) (lowZ xw (1000 : Int)) ((2 : Int) + (lowZ (xw >>> ((7 : Int32) &&& 31)) (47 : Int))) (lowZ (xw >>> ((13 : Int32) &&& 31)) (48 : Int)) z9 z12 z14) := hF
  have e15 : z15.toInt = a_setWave σ1 (1 : Int) (lowZ xw (1000 : Int)) ((2 : Int) + (lowZ (xw >>> ((7 : Int32) &&& 31)) (47 : Int))) (lowZ (xw >>> ((13 : Int32) &&& 31)) (48 : Int)) z9 z12 z14 := e15
  obtain ⟨σ2, hF, hfx, hok⟩ : ∃ x : FD, SFP G H z x ∧ fdX x ∧ fdOk x := ⟨_, hF, kx_setWave hfx (by assumption) (by assumption) (by assumption), (kx_setWave hfx (by assumption) (by assumption) (by assumption)).1⟩
  refine lv_istore_n hx hb dL_begin_69 rfl hl (by decide) rfl (fun ls hl => ?_)
  have hl : lv_has ls 4 [(3, .int z15), (0, .ref z), (1, .int xv), (2, .int xw)] := hl
  refine lv_aload_n hx hb dL_begin_70 rfl (lv_at hl 1 rfl) ?_
  refine lv_iconst (v := (1 : Int32)) hx hb dL_begin_71 (by decide) ?_
  refine lv_iload_n hx hb dL_begin_72 rfl (lv_at hl 2 rfl) ?_
  refine lv_iconst (v := (3 : Int32)) hx hb dL_begin_73 (by decide) ?_
  refine lv_ishr hx hb dL_begin_74 ?_
  obtain ⟨a16, e16⟩ : ∃ a : Int, (xv >>> ((3 : Int32) &&& 31)).toInt = a := ⟨_, rfl⟩
  refine lv_bipush (v := (13 : Int32)) hx hb dL_begin_75 (by decide) ?_
  refine z_cS (As := [.int (xv >>> ((3 : Int32) &&& 31)), .int (13 : Int32)]) (rest := [.int (1 : Int32), .ref z]) ⟨hx, hb, hml, hown, hts⟩ (kL_low l G (xv >>> ((3 : Int32) &&& 31)) a16 e16 (13 : Int32) (13 : Int) kI_13 (by first | assumption | omega)) (va_cwS 2 hts gL_begin_L_low rfl rfl rfl hyL_low ⟨Nat.le_of_ble_eq_true rfl, Nat.le_of_ble_eq_true rfl⟩) hK trivial rfl hl.1 rfl (Nat.le_of_ble_eq_true rfl) dL_begin_77 ⟨Nat.zero_le _, Nat.zero_le _⟩ (fun z17 e17 => ?_)
  have e17 : z17.toInt = lowZ (xv >>> ((3 : Int32) &&& 31)) (13 : Int) := e17
  have hlb17 : 0 ≤ (lowZ (xv >>> ((3 : Int32) &&& 31)) (13 : Int)) ∧ (lowZ (xv >>> ((3 : Int32) &&& 31)) (13 : Int)) < (13 : Int) := lowZ_b (by omega)
  refine lv_bipush (v := (10 : Int32)) hx hb dL_begin_80 (by decide) ?_
  refine lv_iload_n hx hb dL_begin_82 rfl (lv_at hl 2 rfl) ?_
  refine lv_bipush (v := (9 : Int32)) hx hb dL_begin_83 (by decide) ?_
  refine lv_ishr hx hb dL_begin_85 ?_
  obtain ⟨a18, e18⟩ : ∃ a : Int, (xv >>> ((9 : Int32) &&& 31)).toInt = a := ⟨_, rfl⟩
  refine lv_sipush (v := (191 : Int32)) hx hb dL_begin_86 (by decide) ?_
  refine z_cS (As := [.int (xv >>> ((9 : Int32) &&& 31)), .int (191 : Int32)]) (rest := [.int (10 : Int32), .int z17, .int (1 : Int32), .ref z]) ⟨hx, hb, hml, hown, hts⟩ (kL_low l G (xv >>> ((9 : Int32) &&& 31)) a18 e18 (191 : Int32) (191 : Int) kI_191 (by first | assumption | omega)) (va_cwS 2 hts gL_begin_L_low rfl rfl rfl hyL_low ⟨Nat.le_of_ble_eq_true rfl, Nat.le_of_ble_eq_true rfl⟩) hK trivial rfl hl.1 rfl (Nat.le_of_ble_eq_true rfl) dL_begin_89 ⟨Nat.zero_le _, Nat.zero_le _⟩ (fun z19 e19 => ?_)
  have e19 : z19.toInt = lowZ (xv >>> ((9 : Int32) &&& 31)) (191 : Int) := e19
  have hlb19 : 0 ≤ (lowZ (xv >>> ((9 : Int32) &&& 31)) (191 : Int)) ∧ (lowZ (xv >>> ((9 : Int32) &&& 31)) (191 : Int)) < (191 : Int) := lowZ_b (by omega)
  refine z_iadd hx hb kI_10 e19 dL_begin_92 (by omega) (fun z20 e20 => ?_)
  refine lv_iload_n hx hb dL_begin_93 rfl (lv_at hl 2 rfl) ?_
  refine lv_iconst (v := (5 : Int32)) hx hb dL_begin_94 (by decide) ?_
  refine lv_ishr hx hb dL_begin_95 ?_
  obtain ⟨a21, e21⟩ : ∃ a : Int, (xv >>> ((5 : Int32) &&& 31)).toInt = a := ⟨_, rfl⟩
  refine lv_sipush (v := (4001 : Int32)) hx hb dL_begin_96 (by decide) ?_
  refine z_cS (As := [.int (xv >>> ((5 : Int32) &&& 31)), .int (4001 : Int32)]) (rest := [.int z20, .int z17, .int (1 : Int32), .ref z]) ⟨hx, hb, hml, hown, hts⟩ (kL_low l G (xv >>> ((5 : Int32) &&& 31)) a21 e21 (4001 : Int32) (4001 : Int) kI_4001 (by first | assumption | omega)) (va_cwS 2 hts gL_begin_L_low rfl rfl rfl hyL_low ⟨Nat.le_of_ble_eq_true rfl, Nat.le_of_ble_eq_true rfl⟩) hK trivial rfl hl.1 rfl (Nat.le_of_ble_eq_true rfl) dL_begin_99 ⟨Nat.zero_le _, Nat.zero_le _⟩ (fun z22 e22 => ?_)
  have e22 : z22.toInt = lowZ (xv >>> ((5 : Int32) &&& 31)) (4001 : Int) := e22
  have hlb22 : 0 ≤ (lowZ (xv >>> ((5 : Int32) &&& 31)) (4001 : Int)) ∧ (lowZ (xv >>> ((5 : Int32) &&& 31)) (4001 : Int)) < (4001 : Int) := lowZ_b (by omega)
  refine lv_sipush (v := (2000 : Int32)) hx hb dL_begin_102 (by decide) ?_
  refine z_isub hx hb e22 kI_2000 dL_begin_105 (by omega) (fun z23 e23 => ?_)
  refine z_cVw (As := [.int (1 : Int32), .int z17, .int z20, .int z23]) (rest := []) ⟨hx, hb, hml, hown, hts⟩ (kX4_setStation l G z σ2 (1 : Int32) (1 : Int) kI_1 z17 (lowZ (xv >>> ((3 : Int32) &&& 31)) (13 : Int)) e17 z20 ((10 : Int) + (lowZ (xv >>> ((9 : Int32) &&& 31)) (191 : Int))) e20 z23 ((lowZ (xv >>> ((5 : Int32) &&& 31)) (4001 : Int)) - (2000 : Int)) e23 (by first | assumption | omega)) (cwV 4 hts gL_begin_X4_setStation rfl rfl rfl hyX4_setStation ⟨Nat.le_of_ble_eq_true rfl, Nat.le_of_ble_eq_true rfl⟩) hK hF hF.1 rfl rfl hl.1 rfl (Nat.le_of_ble_eq_true rfl) dL_begin_106 ⟨Nat.zero_le _, Nat.zero_le _⟩ hS (fun q h => by simp only [iv] at h ⊢; omega) (fun z24 H locs e24 hB hsz hq hS => ?_)
  have hF := hB
  have hF : SFP G H z (s_setStation σ2 (1 : Int) (lowZ (xv >>> ((3 : Int32) &&& 31)) (13 : Int)) ((10 : Int) + (lowZ (xv >>> ((9 : Int32) &&& 31)) (191 : Int))) ((lowZ (xv >>> ((5 : Int32) &&& 31)) (4001 : Int)) - (2000 : Int)) z17 z20 z23) := hF
  have e24 : z24.toInt = a_setStation σ2 (1 : Int) (lowZ (xv >>> ((3 : Int32) &&& 31)) (13 : Int)) ((10 : Int) + (lowZ (xv >>> ((9 : Int32) &&& 31)) (191 : Int))) ((lowZ (xv >>> ((5 : Int32) &&& 31)) (4001 : Int)) - (2000 : Int)) z17 z20 z23 := e24
  obtain ⟨σ3, hF, hfx, hok⟩ : ∃ x : FD, SFP G H z x ∧ fdX x ∧ fdOk x := ⟨_, hF, kx_setStation hfx (by assumption) (by assumption) (by assumption), (kx_setStation hfx (by assumption) (by assumption) (by assumption)).1⟩
  refine lv_istore_n hx hb dL_begin_109 rfl hl (by decide) rfl (fun ls hl => ?_)
  have hl : lv_has ls 4 [(3, .int z24), (0, .ref z), (1, .int xv), (2, .int xw)] := hl
  refine lv_aload_n hx hb dL_begin_110 rfl (lv_at hl 1 rfl) ?_
  refine lv_iconst (v := (2 : Int32)) hx hb dL_begin_111 (by decide) ?_
  refine lv_iload_n hx hb dL_begin_112 rfl (lv_at hl 3 rfl) ?_
  refine lv_iconst (v := (3 : Int32)) hx hb dL_begin_113 (by decide) ?_
  refine lv_ishr hx hb dL_begin_114 ?_
  obtain ⟨a25, e25⟩ : ∃ a : Int, (xw >>> ((3 : Int32) &&& 31)).toInt = a := ⟨_, rfl⟩
  refine lv_bipush (v := (13 : Int32)) hx hb dL_begin_115 (by decide) ?_
  refine z_cS (As := [.int (xw >>> ((3 : Int32) &&& 31)), .int (13 : Int32)]) (rest := [.int (2 : Int32), .ref z]) ⟨hx, hb, hml, hown, hts⟩ (kL_low l G (xw >>> ((3 : Int32) &&& 31)) a25 e25 (13 : Int32) (13 : Int) kI_13 (by first | assumption | omega)) (va_cwS 2 hts gL_begin_L_low rfl rfl rfl hyL_low ⟨Nat.le_of_ble_eq_true rfl, Nat.le_of_ble_eq_true rfl⟩) hK trivial rfl hl.1 rfl (Nat.le_of_ble_eq_true rfl) dL_begin_117 ⟨Nat.zero_le _, Nat.zero_le _⟩ (fun z26 e26 => ?_)
  have e26 : z26.toInt = lowZ (xw >>> ((3 : Int32) &&& 31)) (13 : Int) := e26
  have hlb26 : 0 ≤ (lowZ (xw >>> ((3 : Int32) &&& 31)) (13 : Int)) ∧ (lowZ (xw >>> ((3 : Int32) &&& 31)) (13 : Int)) < (13 : Int) := lowZ_b (by omega)
  refine lv_bipush (v := (10 : Int32)) hx hb dL_begin_120 (by decide) ?_
  refine lv_iload_n hx hb dL_begin_122 rfl (lv_at hl 3 rfl) ?_
  refine lv_bipush (v := (9 : Int32)) hx hb dL_begin_123 (by decide) ?_
  refine lv_ishr hx hb dL_begin_125 ?_
  obtain ⟨a27, e27⟩ : ∃ a : Int, (xw >>> ((9 : Int32) &&& 31)).toInt = a := ⟨_, rfl⟩
  refine lv_sipush (v := (191 : Int32)) hx hb dL_begin_126 (by decide) ?_
  refine z_cS (As := [.int (xw >>> ((9 : Int32) &&& 31)), .int (191 : Int32)]) (rest := [.int (10 : Int32), .int z26, .int (2 : Int32), .ref z]) ⟨hx, hb, hml, hown, hts⟩ (kL_low l G (xw >>> ((9 : Int32) &&& 31)) a27 e27 (191 : Int32) (191 : Int) kI_191 (by first | assumption | omega)) (va_cwS 2 hts gL_begin_L_low rfl rfl rfl hyL_low ⟨Nat.le_of_ble_eq_true rfl, Nat.le_of_ble_eq_true rfl⟩) hK trivial rfl hl.1 rfl (Nat.le_of_ble_eq_true rfl) dL_begin_129 ⟨Nat.zero_le _, Nat.zero_le _⟩ (fun z28 e28 => ?_)
  have e28 : z28.toInt = lowZ (xw >>> ((9 : Int32) &&& 31)) (191 : Int) := e28
  have hlb28 : 0 ≤ (lowZ (xw >>> ((9 : Int32) &&& 31)) (191 : Int)) ∧ (lowZ (xw >>> ((9 : Int32) &&& 31)) (191 : Int)) < (191 : Int) := lowZ_b (by omega)
  refine z_iadd hx hb kI_10 e28 dL_begin_132 (by omega) (fun z29 e29 => ?_)
  refine lv_iload_n hx hb dL_begin_133 rfl (lv_at hl 3 rfl) ?_
  refine lv_iconst (v := (5 : Int32)) hx hb dL_begin_134 (by decide) ?_
  refine lv_ishr hx hb dL_begin_135 ?_
  obtain ⟨a30, e30⟩ : ∃ a : Int, (xw >>> ((5 : Int32) &&& 31)).toInt = a := ⟨_, rfl⟩
  refine lv_sipush (v := (4001 : Int32)) hx hb dL_begin_136 (by decide) ?_
  refine z_cS (As := [.int (xw >>> ((5 : Int32) &&& 31)), .int (4001 : Int32)]) (rest := [.int z29, .int z26, .int (2 : Int32), .ref z]) ⟨hx, hb, hml, hown, hts⟩ (kL_low l G (xw >>> ((5 : Int32) &&& 31)) a30 e30 (4001 : Int32) (4001 : Int) kI_4001 (by first | assumption | omega)) (va_cwS 2 hts gL_begin_L_low rfl rfl rfl hyL_low ⟨Nat.le_of_ble_eq_true rfl, Nat.le_of_ble_eq_true rfl⟩) hK trivial rfl hl.1 rfl (Nat.le_of_ble_eq_true rfl) dL_begin_139 ⟨Nat.zero_le _, Nat.zero_le _⟩ (fun z31 e31 => ?_)
  have e31 : z31.toInt = lowZ (xw >>> ((5 : Int32) &&& 31)) (4001 : Int) := e31
  have hlb31 : 0 ≤ (lowZ (xw >>> ((5 : Int32) &&& 31)) (4001 : Int)) ∧ (lowZ (xw >>> ((5 : Int32) &&& 31)) (4001 : Int)) < (4001 : Int) := lowZ_b (by omega)
  refine lv_sipush (v := (2000 : Int32)) hx hb dL_begin_142 (by decide) ?_
  refine z_isub hx hb e31 kI_2000 dL_begin_145 (by omega) (fun z32 e32 => ?_)
  refine z_cVw (As := [.int (2 : Int32), .int z26, .int z29, .int z32]) (rest := []) ⟨hx, hb, hml, hown, hts⟩ (kX4_setStation l G z σ3 (2 : Int32) (2 : Int) kI_2 z26 (lowZ (xw >>> ((3 : Int32) &&& 31)) (13 : Int)) e26 z29 ((10 : Int) + (lowZ (xw >>> ((9 : Int32) &&& 31)) (191 : Int))) e29 z32 ((lowZ (xw >>> ((5 : Int32) &&& 31)) (4001 : Int)) - (2000 : Int)) e32 (by first | assumption | omega)) (cwV 4 hts gL_begin_X4_setStation rfl rfl rfl hyX4_setStation ⟨Nat.le_of_ble_eq_true rfl, Nat.le_of_ble_eq_true rfl⟩) hK hF hF.1 rfl rfl hl.1 rfl (Nat.le_of_ble_eq_true rfl) dL_begin_146 ⟨Nat.zero_le _, Nat.zero_le _⟩ hS (fun q h => by simp only [iv] at h ⊢; omega) (fun z33 H locs e33 hB hsz hq hS => ?_)
  have hF := hB
  have hF : SFP G H z (s_setStation σ3 (2 : Int) (lowZ (xw >>> ((3 : Int32) &&& 31)) (13 : Int)) ((10 : Int) + (lowZ (xw >>> ((9 : Int32) &&& 31)) (191 : Int))) ((lowZ (xw >>> ((5 : Int32) &&& 31)) (4001 : Int)) - (2000 : Int)) z26 z29 z32) := hF
  have e33 : z33.toInt = a_setStation σ3 (2 : Int) (lowZ (xw >>> ((3 : Int32) &&& 31)) (13 : Int)) ((10 : Int) + (lowZ (xw >>> ((9 : Int32) &&& 31)) (191 : Int))) ((lowZ (xw >>> ((5 : Int32) &&& 31)) (4001 : Int)) - (2000 : Int)) z26 z29 z32 := e33
  obtain ⟨σ4, hF, hfx, hok⟩ : ∃ x : FD, SFP G H z x ∧ fdX x ∧ fdOk x := ⟨_, hF, kx_setStation hfx (by assumption) (by assumption) (by assumption), (kx_setStation hfx (by assumption) (by assumption) (by assumption)).1⟩
  refine lv_istore_n hx hb dL_begin_149 rfl hl (by decide) rfl (fun ls hl => ?_)
  have hl : lv_has ls 4 [(3, .int z33), (0, .ref z), (1, .int xv), (2, .int xw)] := hl
  exact z_rv hx hb hr hlocks ⟨_, hF, hfx⟩ hS dL_begin_150
