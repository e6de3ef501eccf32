abbrev rmX4_follow : Room := { frames := 6, cells := 0, slots := 0, locals := 135 }
theorem iwX4_follow_1 : ∀ w ∈ wsX10, w ∈ wsX4_follow := fun _ h => List.mem_cons_of_mem _ (List.mem_append_left _ (List.mem_append_left _ (List.mem_append_right _ h)))
theorem iwX4_follow_2 : ∀ w ∈ wsX20, w ∈ wsX4_follow := fun _ h => List.mem_cons_of_mem _ (List.mem_append_left _ (List.mem_append_left _ (List.mem_append_left _ (List.mem_append_right _ h))))
theorem iwX4_follow_4 : ∀ w ∈ wsX40, w ∈ wsX4_follow := fun _ h => List.mem_cons_of_mem _ (List.mem_append_left _ (List.mem_append_left _ (List.mem_append_left _ (List.mem_append_left _ (List.mem_append_right _ h)))))
theorem flX4_follow_10 : Cond.fieldLink RX4 10 "SiltedFloats" "now" "LSiltedFloats$State;" ∈ wsX4_follow := by decide +kernel
theorem flX4_follow_117 : Cond.fieldLink RX4 117 "SiltedFloats$OrderText" "length" "I" ∈ wsX4_follow := by decide +kernel
theorem flX4_follow_26 : Cond.fieldLink RX4 26 "SiltedFloats" "text" "LSiltedFloats$OrderText;" ∈ wsX4_follow := by decide +kernel
theorem flX4_follow_34 : Cond.fieldLink RX4 34 "SiltedFloats$State" "hour" "I" ∈ wsX4_follow := by decide +kernel
theorem hyX4_follow : yX4_follow.cls = RX4 ∧ yX4_follow.cls ≠ "java/lang/invoke/MethodHandle" ∧ yX4_follow.cls ≠ "java/lang/invoke/VarHandle" ∧ (parseMethodDescriptor yX4_follow.desc).map (fun d => d.parameters.length) = some 0 := by decide +kernel
set_option maxHeartbeats 4000000 in
set_option maxRecDepth 100000 in
theorem kX4_follow (l : Launch) (G : xG) (z : Nat) (σ : FD) (hok : fdOk σ) : Met l yX4_follow wsX4_follow rmX4_follow (va_Pc [.ref z] (zPre G (fun H => SFP G H z σ))) (zW (fun v => v.toInt = a_follow σ) (fun H => SFP G H z (s_follow σ)) (iv z 112)) 0 0 (iv z 112) := by
  refine z_ofW (cc := cX4_follow) (maxL := 4) (ret := some .int) (by decide +kernel) rfl (Nat.le_of_ble_eq_true rfl) ?_
  intro p e s m below meth c hx hb hml hr hts hown hlocks hK hP ls hl
  have hF := hP
  have hown : s.vm.findClass RX4 = some m.cls := hown
  have hl : lv_has ls 4 [(0, .ref z)] := hl
  have hS : va_S (iv z 112) s.heap s.heap [] := va_S.rf
  have hok1 := hok.1
  have hokh := hok1.1
  have htx := hok.2.2.2.2.2
  have htl := htx.1
  have hfb := ftZ_b htx
  have hhb := hrsZ_b σ.2.2.2.2.2.2 σ.2.2.2.2.2.2.1.toInt.toNat
  refine lv_aload_n hx hb dX4_follow_0 rfl (lv_at hl 0 rfl) ?_
  have hX1 : TX G s.heap (z + 110) σ.2.2.2.2.2.2 := hF.text
  refine z_get hx hb hts iwX4_follow_4 hown hK hF.1 rfl 5 (by decide) flX4_follow_26 rfl (v := .ref (z + 110)) rfl dX4_follow_1 ?_
  refine z_cV (As := []) (rest := []) ⟨hx, hb, hml, hown, hts⟩ (kX1_faultAt l G (z + 110) σ.2.2.2.2.2.2 htx) (cwV 0 hts gX4_follow_X1_faultAt rfl rfl rfl hyX1_faultAt ⟨Nat.le_of_ble_eq_true rfl, Nat.le_of_ble_eq_true rfl⟩) hK hX1 hX1.1 rfl rfl hl.1 rfl (Nat.le_of_ble_eq_true rfl) dX4_follow_4 ⟨Nat.zero_le _, Nat.zero_le _⟩ (fun z2 e2 => ?_)
  have e2 : z2.toInt = ftZ σ.2.2.2.2.2.2 := e2
  refine lv_istore_n hx hb dX4_follow_7 rfl hl (by decide) rfl (fun ls hl => ?_)
  have hl : lv_has ls 4 [(1, .int z2), (0, .ref z)] := hl
  refine lv_iload_n hx hb dX4_follow_8 rfl (lv_at hl 0 rfl) ?_
  refine lv_iconst (v := (-1 : Int32)) hx hb dX4_follow_9 (by decide) ?_
  refine z_icmp_eq (tgt := 18) hx hb e2 kI_m1 dX4_follow_10 (by decide) (fun c_3 => ?_) (fun c_3 => ?_)
  · have hfit := fitT_of htx c_3
    refine lv_aload_n hx hb dX4_follow_18 rfl (lv_at hl 1 rfl) ?_
    have hN4 : ST G s.heap (z + 1) σ.1 := hF.now
    refine z_get hx hb hts iwX4_follow_4 hown hK hF.1 rfl 0 (by decide) flX4_follow_10 rfl (v := .ref (z + 1)) rfl dX4_follow_19 ?_
    refine z_get hx hb hts iwX4_follow_2 hown hK hN4.1 rfl 0 (by decide) flX4_follow_34 rfl (v := .int σ.1.1) rfl dX4_follow_22 ?_
    refine lv_aload_n hx hb dX4_follow_25 rfl (lv_at hl 1 rfl) ?_
    refine z_get hx hb hts iwX4_follow_4 hown hK hF.1 rfl 5 (by decide) flX4_follow_26 rfl (v := .ref (z + 110)) rfl dX4_follow_26 ?_
    refine z_cV (As := []) (rest := [.int σ.1.1]) ⟨hx, hb, hml, hown, hts⟩ (kX1_hoursInAll l G (z + 110) σ.2.2.2.2.2.2 htx (fun i _ hc => (hfit.p hc).2.2.2.2)) (cwV 0 hts gX4_follow_X1_hoursInAll rfl rfl rfl hyX1_hoursInAll ⟨Nat.le_of_ble_eq_true rfl, Nat.le_of_ble_eq_true rfl⟩) hK hX1 hX1.1 rfl rfl hl.1 rfl (Nat.le_of_ble_eq_true rfl) dX4_follow_29 ⟨Nat.zero_le _, Nat.zero_le _⟩ (fun z5 e5 => ?_)
    have e5 : z5.toInt = sumZ (haF σ.2.2.2.2.2.2) 0 σ.2.2.2.2.2.2.1.toInt.toNat := e5
    have e5 : z5.toInt = hrsZ σ.2.2.2.2.2.2 σ.2.2.2.2.2.2.1.toInt.toNat := by rw [e5]; first | done | rfl
    refine z_iadd hx hb rfl e5 dX4_follow_32 (by omega) (fun z6 e6 => ?_)
    refine lv_bipush (v := (120 : Int32)) hx hb dX4_follow_33 (by decide) ?_
    refine z_icmp_le (tgt := 41) hx hb e6 kI_120 dX4_follow_35 (by decide) (fun c_7 => ?_) (fun c_7 => ?_)
    · refine lv_aload_n hx hb dX4_follow_41 rfl (lv_at hl 1 rfl) ?_
      refine z_cVv (As := []) (rest := []) ⟨hx, hb, hml, hown, hts⟩ (kX4_remember l G z σ (by first | assumption | omega)) (cwV 0 hts gX4_follow_X4_remember rfl rfl rfl hyX4_remember ⟨Nat.le_of_ble_eq_true rfl, Nat.le_of_ble_eq_true rfl⟩) hK hF hF.1 rfl rfl hl.1 rfl (Nat.le_of_ble_eq_true rfl) dX4_follow_42 ⟨Nat.zero_le _, Nat.zero_le _⟩ hS (fun q h => by simp only [iv] at h ⊢; omega) (fun H locs hB hsz hq hS => ?_)
      have hF := hB
      have hF : SFP G H z (σ.1, σ.2.1, σ.2.2.1, (rmF σ).2.2.2.1, (rmF σ).2.2.2.2.1, (rmF σ).2.2.2.2.2.1, σ.2.2.2.2.2.2) := hF
      have hX1 : TX G H (z + 110) σ.2.2.2.2.2.2 := hF.text
      have hN4 : ST G H (z + 1) σ.1 := hF.now
      refine lv_iconst (v := (0 : Int32)) hx hb dX4_follow_45 (by decide) ?_
      refine lv_istore_n hx hb dX4_follow_46 rfl hl (by decide) rfl (fun ls hl => ?_)
      have hl : lv_has ls 4 [(2, .int (0 : Int32)), (1, .int z2), (0, .ref z)] := hl
      refine lv_iconst (v := (0 : Int32)) hx hb dX4_follow_47 (by decide) ?_
      refine lv_istore_n hx hb dX4_follow_48 rfl hl (by decide) rfl (fun ls hl => ?_)
      have hl : lv_has ls 4 [(3, .int (0 : Int32)), (2, .int (0 : Int32)), (1, .int z2), (0, .ref z)] := hl
      have cut49 : ∀ (n49 : Nat), ∀ (x2 : Int32) (i2 : Int) (_ : x2.toInt = i2) (x3 : Int32) (i3 : Int) (_ : x3.toInt = i3), (σ.2.2.2.2.2.2.1.toInt - i3).toNat < n49 → (0 ≤ i3 ∧ i3 ≤ σ.2.2.2.2.2.2.1.toInt) → (i2 = cntZ (fun j => stP σ.2.2.2.2.2.2 (j : Int)) i3.toNat) → ∀ (H : Heap) (locs : List Loc), SFP G H z ((foN σ.1 σ.2.2.2.2.2.2 i3.toNat), σ.2.1, σ.2.2.1, ((rmF σ).2.2.2.1), ((rmF σ).2.2.2.2.1), ((rmF σ).2.2.2.2.2.1), σ.2.2.2.2.2.2) → va_S (iv z 112) s.heap H locs → ∀ ls : Array Slot, lv_has ls 4 [(0, .ref z), (2, .int x2), (3, .int x3)] → W p l e rmX4_follow s m ([.ref z] : List Value).toArray below meth c H locs 0 0 (MQ below (zW (fun v => v.toInt = a_follow σ) (fun H => SFP G H z (s_follow σ)) (iv z 112)) ([.ref z] : List Value).toArray s 0 0 (iv z 112)) (F0 m 49 ls []) := by
        intro n49
        induction n49 with
        | zero =>
          intro x2 i2 hx2 x3 i3 hx3 hmu49 hi49_0 hi49_1 H locs hF hS ls hl
          exact absurd hmu49 (Nat.not_lt_zero _)
        | succ n49 ih49 =>
          intro x2 i2 hx2 x3 i3 hx3 hmu49 hi49_0 hi49_1 H locs hF hS ls hl
          have hob := cntZ_b (fun j => stP σ.2.2.2.2.2.2 (j : Int)) i3.toNat
          refine lv_iload_n hx hb dX4_follow_49 rfl (lv_at hl 2 rfl) ?_
          refine lv_aload_n hx hb dX4_follow_50 rfl (lv_at hl 0 rfl) ?_
          have hX9 : TX G H (z + 110) σ.2.2.2.2.2.2 := hF.text
          refine z_get hx hb hts iwX4_follow_4 hown hK hF.1 rfl 5 (by decide) flX4_follow_26 rfl (v := .ref (z + 110)) rfl dX4_follow_51 ?_
          refine z_get hx hb hts iwX4_follow_1 hown hK hX9.1 rfl 0 (by decide) flX4_follow_117 rfl (v := .int σ.2.2.2.2.2.2.1) rfl dX4_follow_54 ?_
          refine z_icmp_ge (tgt := 105) hx hb hx3 rfl dX4_follow_57 (by decide) (fun c_10 => ?_) (fun c_10 => ?_)
          · refine lv_iload_n hx hb dX4_follow_105 rfl (lv_at hl 1 rfl) ?_
            exact z_riw (v := x2) hx hb hr hlocks (show x2.toInt = a_follow σ from (by unfold a_follow; rw [if_neg (by omega), if_neg (by omega), hx2, hi49_1, show i3 = σ.2.2.2.2.2.2.1.toInt by omega]; rfl)) (hF.to (by unfold s_follow; rw [if_pos (by omega), show i3 = σ.2.2.2.2.2.2.1.toInt by omega])) hS dX4_follow_106
          · refine lv_aload_n hx hb dX4_follow_60 rfl (lv_at hl 0 rfl) ?_
            refine z_get hx hb hts iwX4_follow_4 hown hK hF.1 rfl 5 (by decide) flX4_follow_26 rfl (v := .ref (z + 110)) rfl dX4_follow_61 ?_
            refine lv_iload_n hx hb dX4_follow_64 rfl (lv_at hl 2 rfl) ?_
            refine z_cV (As := [.int x3]) (rest := []) ⟨hx, hb, hml, hown, hts⟩ (kX1_startsOrder l G (z + 110) σ.2.2.2.2.2.2 x3 i3 hx3 (by first | assumption | omega)) (cwV 1 hts gX4_follow_X1_startsOrder rfl rfl rfl hyX1_startsOrder ⟨Nat.le_of_ble_eq_true rfl, Nat.le_of_ble_eq_true rfl⟩) hK hX9 hX9.1 rfl rfl hl.1 rfl (Nat.le_of_ble_eq_true rfl) dX4_follow_65 ⟨Nat.zero_le _, Nat.zero_le _⟩ (fun z11 e11 => ?_)
            have e11 : isB z11 (chZ σ.2.2.2.2.2.2 i3 = 112 ∨ slP (chZ σ.2.2.2.2.2.2 i3)) := e11
            refine z_ifb_eq (tgt := 99) hx hb e11 dX4_follow_68 (by decide) (fun c_12 => ?_) (fun c_12 => ?_)
            · refine z_iinc (k := 2) hx hb dX4_follow_99 hl rfl hx3 (show (Int32.ofInt 1).toInt = (1 : Int) from rfl) (by omega) (by decide) (fun z13 e13 ls hl => ?_)
              have hl : lv_has ls 4 [(3, .int z13), (0, .ref z), (2, .int x2)] := hl
              refine lv_goto (tgt := 49) hx hb dX4_follow_102 (by decide) ?_
              exact ih49 x2 i2 hx2 z13 (i3 + (1 : Int)) e13 (by omega) (by omega) (by rw [cntI_f (q := stP σ.2.2.2.2.2.2) (by omega) (by assumption)]; omega) _ _ (hF.to (by rw [foN_f (by omega) (by assumption)])) hS ls (lv_sub hl [1, 2, 0] rfl)
            · have hfp := fol_pre hok1 hfit (by omega) (by omega) (by omega) c_12
              have hbi := foN_ok hok1 hfit (by omega) i3.toNat (by omega)
              refine lv_aload_n hx hb dX4_follow_71 rfl (lv_at hl 0 rfl) ?_
              have hN14 : ST G H (z + 1) (foN σ.1 σ.2.2.2.2.2.2 i3.toNat) := hF.now
              refine z_get hx hb hts iwX4_follow_4 hown hK hF.1 rfl 0 (by decide) flX4_follow_10 rfl (v := .ref (z + 1)) rfl dX4_follow_72 ?_
              refine lv_aload_n hx hb dX4_follow_75 rfl (lv_at hl 0 rfl) ?_
              refine z_get hx hb hts iwX4_follow_4 hown hK hF.1 rfl 5 (by decide) flX4_follow_26 rfl (v := .ref (z + 110)) rfl dX4_follow_76 ?_
              refine lv_iload_n hx hb dX4_follow_79 rfl (lv_at hl 2 rfl) ?_
              refine z_cV (As := [.int x3]) (rest := [.ref (z + 1)]) ⟨hx, hb, hml, hown, hts⟩ (kX1_characterAt l G (z + 110) σ.2.2.2.2.2.2 x3 i3 hx3 (by first | assumption | omega)) (cwV 1 hts gX4_follow_X1_characterAt rfl rfl rfl hyX1_characterAt ⟨Nat.le_of_ble_eq_true rfl, Nat.le_of_ble_eq_true rfl⟩) hK hX9 hX9.1 rfl rfl hl.1 rfl (Nat.le_of_ble_eq_true rfl) dX4_follow_80 ⟨Nat.zero_le _, Nat.zero_le _⟩ (fun z15 e15 => ?_)
              have e15 : z15.toInt = chZ σ.2.2.2.2.2.2 i3 := e15
              refine lv_aload_n hx hb dX4_follow_83 rfl (lv_at hl 0 rfl) ?_
              refine z_get hx hb hts iwX4_follow_4 hown hK hF.1 rfl 5 (by decide) flX4_follow_26 rfl (v := .ref (z + 110)) rfl dX4_follow_84 ?_
              refine lv_iload_n hx hb dX4_follow_87 rfl (lv_at hl 2 rfl) ?_
              refine lv_iconst (v := (1 : Int32)) hx hb dX4_follow_88 (by decide) ?_
              refine z_iadd hx hb hx3 kI_1 dX4_follow_89 (by omega) (fun z16 e16 => ?_)
              refine z_cV (As := [.int z16]) (rest := [.int z15, .ref (z + 1)]) ⟨hx, hb, hml, hown, hts⟩ (kX1_numberFrom l G (z + 110) σ.2.2.2.2.2.2 z16 (i3 + (1 : Int)) e16 (by first | assumption | omega) (by first | assumption | omega) hfp.1) (cwV 1 hts gX4_follow_X1_numberFrom rfl rfl rfl hyX1_numberFrom ⟨Nat.le_of_ble_eq_true rfl, Nat.le_of_ble_eq_true rfl⟩) hK hX9 hX9.1 rfl rfl hl.1 rfl (Nat.le_of_ble_eq_true rfl) dX4_follow_90 ⟨Nat.zero_le _, Nat.zero_le _⟩ (fun z17 e17 => ?_)
              have e17 : z17.toInt = nmZ σ.2.2.2.2.2.2 (i3 + (1 : Int)) := e17
              refine z_cVv (As := [.int z15, .int z17]) (rest := []) ⟨hx, hb, hml, hown, hts⟩ (kX2_obey l G (z + 1) (foN σ.1 σ.2.2.2.2.2.2 i3.toNat) z15 (chZ σ.2.2.2.2.2.2 i3) e15 z17 (nmZ σ.2.2.2.2.2.2 (i3 + (1 : Int))) e17 hbi.1 hfp.2) (cwV 2 hts gX4_follow_X2_obey rfl rfl rfl hyX2_obey ⟨Nat.le_of_ble_eq_true rfl, Nat.le_of_ble_eq_true rfl⟩) hK hN14 hN14.1 rfl rfl hl.1 rfl (Nat.le_of_ble_eq_true rfl) dX4_follow_93 ⟨Nat.zero_le _, Nat.zero_le _⟩ hS (fun q h => by simp only [iv] at h ⊢; omega) (fun H locs hB hsz hq hS => ?_)
              have hN14 := hB
              have hN14 : ST G H (z + 1) (obS (foN σ.1 σ.2.2.2.2.2.2 i3.toNat) (chZ σ.2.2.2.2.2.2 i3) (nmZ σ.2.2.2.2.2.2 (i3 + (1 : Int)))) := hN14
              have hF : SFP G H z (obS (foN σ.1 σ.2.2.2.2.2.2 i3.toNat) (chZ σ.2.2.2.2.2.2 i3) (nmZ σ.2.2.2.2.2.2 (i3 + (1 : Int))), σ.2.1, σ.2.2.1, ((rmF σ).2.2.2.1), ((rmF σ).2.2.2.2.1), ((rmF σ).2.2.2.2.2.1), σ.2.2.2.2.2.2) := hF.setNow hN14 (fun q h1 h => hq q h1 (by simp only [iv]; omega))
              have hX9 : TX G H (z + 110) σ.2.2.2.2.2.2 := hF.text
              refine z_iinc (k := 1) hx hb dX4_follow_96 hl rfl hx2 (show (Int32.ofInt 1).toInt = (1 : Int) from rfl) (by omega) (by decide) (fun z19 e19 ls hl => ?_)
              have hl : lv_has ls 4 [(2, .int z19), (0, .ref z), (3, .int x3)] := hl
              refine z_iinc (k := 2) hx hb dX4_follow_99 hl rfl hx3 (show (Int32.ofInt 1).toInt = (1 : Int) from rfl) (by omega) (by decide) (fun z20 e20 ls hl => ?_)
              have hl : lv_has ls 4 [(3, .int z20), (2, .int z19), (0, .ref z)] := hl
              refine lv_goto (tgt := 49) hx hb dX4_follow_102 (by decide) ?_
              exact ih49 z19 (i2 + (1 : Int)) e19 z20 (i3 + (1 : Int)) e20 (by omega) (by omega) (by rw [cntI_t (q := stP σ.2.2.2.2.2.2) (by omega) (by assumption)]; omega) _ _ (hF.to (by rw [foN_t (by omega) (by assumption)])) hS ls (lv_sub hl [2, 1, 0] rfl)
      exact cut49 (((σ.2.2.2.2.2.2.1.toInt - (0 : Int)).toNat) + 1) (0 : Int32) (0 : Int) kI_0 (0 : Int32) (0 : Int) kI_0 (Nat.lt_succ_self _) (by omega) rfl _ _ hF hS ls (lv_sub hl [3, 1, 0] rfl)
    · refine lv_bipush (v := (-3 : Int32)) hx hb dX4_follow_38 (by decide) ?_
      exact z_riw (v := (-3 : Int32)) hx hb hr hlocks (show (-3 : Int32).toInt = a_follow σ from (by unfold a_follow; rw [if_neg (by omega), if_pos (by omega)]; rfl)) (hF.to (by unfold s_follow; rw [if_neg (by omega)])) hS dX4_follow_40
  · refine lv_bipush (v := (-100 : Int32)) hx hb dX4_follow_13 (by decide) ?_
    refine lv_iload_n hx hb dX4_follow_15 rfl (lv_at hl 0 rfl) ?_
    refine z_isub hx hb kI_m100 e2 dX4_follow_16 (by omega) (fun z21 e21 => ?_)
    exact z_riw (v := z21) hx hb hr hlocks (show z21.toInt = a_follow σ from (by unfold a_follow; rw [if_pos (by omega)]; exact e21)) (hF.to (by unfold s_follow; rw [if_neg (by omega)])) hS dX4_follow_17
