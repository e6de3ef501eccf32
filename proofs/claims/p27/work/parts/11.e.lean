abbrev rmX4_dropOldest : Room := { frames := 0, cells := 0, slots := 0, locals := 0 }
theorem iwX4_dropOldest_4 : ∀ w ∈ wsX40, w ∈ wsX4_dropOldest := fun _ h => List.mem_cons_of_mem _ (List.mem_append_right _ h)
theorem flX4_dropOldest_162 : Cond.fieldLink RX4 162 "SiltedFloats" "pastCount" "I" ∈ wsX4_dropOldest := by decide +kernel
theorem flX4_dropOldest_19 : Cond.fieldLink RX4 19 "SiltedFloats" "past" "[LSiltedFloats$State;" ∈ wsX4_dropOldest := by decide +kernel
theorem hyX4_dropOldest : yX4_dropOldest.cls = RX4 ∧ yX4_dropOldest.cls ≠ "java/lang/invoke/MethodHandle" ∧ yX4_dropOldest.cls ≠ "java/lang/invoke/VarHandle" ∧ (parseMethodDescriptor yX4_dropOldest.desc).map (fun d => d.parameters.length) = some 0 := by decide +kernel
set_option maxHeartbeats 4000000 in
set_option maxRecDepth 100000 in
theorem kX4_dropOldest (l : Launch) (G : xG) (z : Nat) (σ : FD) : Met l yX4_dropOldest wsX4_dropOldest rmX4_dropOldest (va_Pc [.ref z] (zPre G (fun H => SFP G H z σ))) (zV (fun H => SFP G H z (drF σ)) (iv z 112)) 0 0 (iv z 112) := by
  refine z_ofW (cc := cX4_dropOldest) (maxL := 3) (ret := none) (by decide +kernel) rfl (Nat.le_of_ble_eq_true rfl) ?_
  intro p e s m below meth c hx hb hml hr hts hown hlocks hK hP ls hl
  have hF := hP
  have hown : s.vm.findClass RX4 = some m.cls := hown
  have hl : lv_has ls 3 [(0, .ref z)] := hl
  have hS : va_S (iv z 112) s.heap s.heap [] := va_S.rf
  have hR := hF.raw
  refine lv_aload_n hx hb dX4_dropOldest_0 rfl (lv_at hl 0 rfl) ?_
  refine z_get hx hb hts iwX4_dropOldest_4 hown hK hR.1 rfl 3 (by decide) flX4_dropOldest_19 rfl (v := .ref (z + 37)) rfl dX4_dropOldest_1 ?_
  refine lv_iconst (v := (0 : Int32)) hx hb dX4_dropOldest_4 (by decide) ?_
  refine z_aald (b := (rtN σ.2.2.2.1 1) (0 : Int).toNat) hx hb hK 4 hR.2.1 rfl kI_0 (by omega) rfl dX4_dropOldest_5 ?_
  refine lv_astore_n hx hb dX4_dropOldest_6 rfl hl (by decide) rfl (fun ls hl => ?_)
  have hl : lv_has ls 3 [(1, .ref ((rtN σ.2.2.2.1 1) (0 : Int).toNat)), (0, .ref z)] := hl
  refine lv_iconst (v := (1 : Int32)) hx hb dX4_dropOldest_7 (by decide) ?_
  refine lv_istore_n hx hb dX4_dropOldest_8 rfl hl (by decide) rfl (fun ls hl => ?_)
  have hl : lv_has ls 3 [(2, .int (1 : Int32)), (1, .ref ((rtN σ.2.2.2.1 1) (0 : Int).toNat)), (0, .ref z)] := hl
  have cut9 : ∀ (n9 : Nat), ∀ (x2 : Int32) (i2 : Int) (_ : x2.toInt = i2), (4 - i2).toNat < n9 → (1 ≤ i2 ∧ i2 ≤ 4) → ∀ (H : Heap) (locs : List Loc), RW G H z (σ, rtN σ.2.2.2.1 i2, σ.2.2.2.2.2.1) → va_S (iv z 112) s.heap H locs → ∀ ls : Array Slot, lv_has ls 3 [(0, .ref z), (1, .ref ((rtN σ.2.2.2.1 1) (0 : Int).toNat)), (2, .int x2)] → W p l e rmX4_dropOldest s m ([.ref z] : List Value).toArray below meth c H locs 0 0 (MQ below (zV (fun H => SFP G H z (drF σ)) (iv z 112)) ([.ref z] : List Value).toArray s 0 0 (iv z 112)) (F0 m 9 ls []) := by
    intro n9
    induction n9 with
    | zero =>
      intro x2 i2 hx2 hmu9 hi9_0 H locs hR hS ls hl
      exact absurd hmu9 (Nat.not_lt_zero _)
    | succ n9 ih9 =>
      intro x2 i2 hx2 hmu9 hi9_0 H locs hR hS ls hl
      refine lv_iload_n hx hb dX4_dropOldest_9 rfl (lv_at hl 2 rfl) ?_
      refine lv_aload_n hx hb dX4_dropOldest_10 rfl (lv_at hl 0 rfl) ?_
      refine z_get hx hb hts iwX4_dropOldest_4 hown hK hR.1 rfl 3 (by decide) flX4_dropOldest_19 rfl (v := .ref (z + 37)) rfl dX4_dropOldest_11 ?_
      refine z_alen hx hb hK 4 hR.2.1 rfl (v := (4 : Int32)) rfl dX4_dropOldest_14 ?_
      refine z_icmp_ge (tgt := 38) hx hb hx2 kI_4 dX4_dropOldest_15 (by decide) (fun c_1 => ?_) (fun c_1 => ?_)
      · refine lv_aload_n hx hb dX4_dropOldest_38 rfl (lv_at hl 0 rfl) ?_
        refine z_get hx hb hts iwX4_dropOldest_4 hown hK hR.1 rfl 3 (by decide) flX4_dropOldest_19 rfl (v := .ref (z + 37)) rfl dX4_dropOldest_39 ?_
        refine lv_aload_n hx hb dX4_dropOldest_42 rfl (lv_at hl 0 rfl) ?_
        refine z_get hx hb hts iwX4_dropOldest_4 hown hK hR.1 rfl 3 (by decide) flX4_dropOldest_19 rfl (v := .ref (z + 37)) rfl dX4_dropOldest_43 ?_
        refine z_alen hx hb hK 4 hR.2.1 rfl (v := (4 : Int32)) rfl dX4_dropOldest_46 ?_
        refine lv_iconst (v := (1 : Int32)) hx hb dX4_dropOldest_47 (by decide) ?_
        refine z_isub hx hb kI_4 kI_1 dX4_dropOldest_48 (by omega) (fun z2 e2 => ?_)
        refine lv_aload_n hx hb dX4_dropOldest_49 rfl (lv_at hl 1 rfl) ?_
        refine z_aastR hx hb hK hR hS (by simp only [iv]; omega) ⟨0, by omega, by unfold rtN; rw [if_neg (by decide)]; rfl⟩ e2 (by omega) dX4_dropOldest_50 (fun H locs hR hsz hq hS => ?_)
        have hR : RW G H z (σ, va_up (rtN σ.2.2.2.1 i2) ((4 : Int) - (1 : Int)).toNat ((rtN σ.2.2.2.1 1) (0 : Int).toNat), σ.2.2.2.2.2.1) := hR
        refine lv_aload_n hx hb dX4_dropOldest_51 rfl (lv_at hl 0 rfl) ?_
        refine lv_aload_n hx hb dX4_dropOldest_52 rfl (lv_at hl 0 rfl) ?_
        refine z_get hx hb hts iwX4_dropOldest_4 hown hK hR.1 rfl 3 (by decide) flX4_dropOldest_19 rfl (v := .ref (z + 37)) rfl dX4_dropOldest_53 ?_
        refine z_alen hx hb hK 4 hR.2.1 rfl (v := (4 : Int32)) rfl dX4_dropOldest_56 ?_
        refine lv_iconst (v := (1 : Int32)) hx hb dX4_dropOldest_57 (by decide) ?_
        refine z_isub hx hb kI_4 kI_1 dX4_dropOldest_58 (by omega) (fun z3 e3 => ?_)
        refine z_putRc hx hb hts iwX4_dropOldest_4 hown hK hR hS (by simp only [iv]; omega) flX4_dropOldest_162 dX4_dropOldest_59 (fun H locs hR hsz hq hS => ?_)
        have hR : RW G H z (σ, va_up (rtN σ.2.2.2.1 i2) ((4 : Int) - (1 : Int)).toNat ((rtN σ.2.2.2.1 1) (0 : Int).toNat), z3) := hR
        exact z_rv hx hb hr hlocks (RW.done (hR.to (by rw [show z3 = (3 : Int32) from zi_ext e3 rfl]; rw [← rtN_e (f := σ.2.2.2.1) (i := i2) (by omega)]; rfl))) hS dX4_dropOldest_62
      · refine lv_aload_n hx hb dX4_dropOldest_18 rfl (lv_at hl 0 rfl) ?_
        refine z_get hx hb hts iwX4_dropOldest_4 hown hK hR.1 rfl 3 (by decide) flX4_dropOldest_19 rfl (v := .ref (z + 37)) rfl dX4_dropOldest_19 ?_
        refine lv_iload_n hx hb dX4_dropOldest_22 rfl (lv_at hl 2 rfl) ?_
        refine lv_iconst (v := (1 : Int32)) hx hb dX4_dropOldest_23 (by decide) ?_
        refine z_isub hx hb hx2 kI_1 dX4_dropOldest_24 (by omega) (fun z4 e4 => ?_)
        refine lv_aload_n hx hb dX4_dropOldest_25 rfl (lv_at hl 0 rfl) ?_
        refine z_get hx hb hts iwX4_dropOldest_4 hown hK hR.1 rfl 3 (by decide) flX4_dropOldest_19 rfl (v := .ref (z + 37)) rfl dX4_dropOldest_26 ?_
        refine lv_iload_n hx hb dX4_dropOldest_29 rfl (lv_at hl 2 rfl) ?_
        refine z_aald (b := (rtN σ.2.2.2.1 i2) i2.toNat) hx hb hK 4 hR.2.1 rfl hx2 (by omega) rfl dX4_dropOldest_30 ?_
        refine z_aastR hx hb hK hR hS (by simp only [iv]; omega) ⟨i2.toNat, by omega, by unfold rtN; rw [if_neg (by omega)]⟩ e4 (by omega) dX4_dropOldest_31 (fun H locs hR hsz hq hS => ?_)
        have hR : RW G H z (σ, va_up (rtN σ.2.2.2.1 i2) (i2 - (1 : Int)).toNat ((rtN σ.2.2.2.1 i2) i2.toNat), σ.2.2.2.2.2.1) := hR
        refine z_iinc (k := 2) hx hb dX4_dropOldest_32 hl rfl hx2 (show (Int32.ofInt 1).toInt = (1 : Int) from rfl) (by omega) (by decide) (fun z5 e5 ls hl => ?_)
        have hl : lv_has ls 3 [(2, .int z5), (0, .ref z), (1, .ref ((rtN σ.2.2.2.1 1) (0 : Int).toNat))] := hl
        refine lv_goto (tgt := 9) hx hb dX4_dropOldest_35 (by decide) ?_
        exact ih9 z5 (i2 + (1 : Int)) e5 (by omega) (by omega) _ _ (hR.to (by rw [rtN_s (by omega)])) hS ls (lv_sub hl [1, 2, 0] rfl)
  exact cut9 (((4 - (1 : Int)).toNat) + 1) (1 : Int32) (1 : Int) kI_1 (Nat.lt_succ_self _) (by omega) _ _ hR hS ls (lv_sub hl [2, 1, 0] rfl)

abbrev rmX4_remember : Room := { frames := 3, cells := 0, slots := 0, locals := 91 }
theorem iwX4_remember_4 : ∀ w ∈ wsX40, w ∈ wsX4_remember := fun _ h => List.mem_cons_of_mem _ (List.mem_append_left _ (List.mem_append_left _ (List.mem_append_left _ (List.mem_append_right _ h))))
theorem flX4_remember_10 : Cond.fieldLink RX4 10 "SiltedFloats" "now" "LSiltedFloats$State;" ∈ wsX4_remember := by decide +kernel
theorem flX4_remember_162 : Cond.fieldLink RX4 162 "SiltedFloats" "pastCount" "I" ∈ wsX4_remember := by decide +kernel
theorem flX4_remember_19 : Cond.fieldLink RX4 19 "SiltedFloats" "past" "[LSiltedFloats$State;" ∈ wsX4_remember := by decide +kernel
theorem hyX4_remember : yX4_remember.cls = RX4 ∧ yX4_remember.cls ≠ "java/lang/invoke/MethodHandle" ∧ yX4_remember.cls ≠ "java/lang/invoke/VarHandle" ∧ (parseMethodDescriptor yX4_remember.desc).map (fun d => d.parameters.length) = some 0 := by decide +kernel
set_option maxHeartbeats 4000000 in
set_option maxRecDepth 100000 in
theorem kX4_remember (l : Launch) (G : xG) (z : Nat) (σ : FD) (hok : fdOk σ) : Met l yX4_remember wsX4_remember rmX4_remember (va_Pc [.ref z] (zPre G (fun H => SFP G H z σ))) (zV (fun H => SFP G H z (σ.1, σ.2.1, σ.2.2.1, (rmF σ).2.2.2.1, (rmF σ).2.2.2.2.1, (rmF σ).2.2.2.2.2.1, σ.2.2.2.2.2.2)) (iv z 112)) 0 0 (iv z 112) := by
  refine z_ofW (cc := cX4_remember) (maxL := 1) (ret := none) (by decide +kernel) rfl (Nat.le_of_ble_eq_true rfl) ?_
  intro p e s m below meth c hx hb hml hr hts hown hlocks hK hP ls hl
  have hF := hP
  have hown : s.vm.findClass RX4 = some m.cls := hown
  have hl : lv_has ls 1 [(0, .ref z)] := hl
  have hS : va_S (iv z 112) s.heap s.heap [] := va_S.rf
  have hk5 := hok.2.2.2.2.1
  refine lv_aload_n hx hb dX4_remember_0 rfl (lv_at hl 0 rfl) ?_
  refine z_get hx hb hts iwX4_remember_4 hown hK hF.1 rfl 4 (by decide) flX4_remember_162 rfl (v := .int σ.2.2.2.2.2.1) rfl dX4_remember_1 ?_
  refine lv_aload_n hx hb dX4_remember_4 rfl (lv_at hl 0 rfl) ?_
  refine z_get hx hb hts iwX4_remember_4 hown hK hF.1 rfl 3 (by decide) flX4_remember_19 rfl (v := .ref (z + 37)) rfl dX4_remember_5 ?_
  refine z_alen hx hb hK 4 hF.2.1 rfl (v := (4 : Int32)) rfl dX4_remember_8 ?_
  refine z_icmp_lt (tgt := 16) hx hb rfl kI_4 dX4_remember_9 (by decide) (fun c_1 => ?_) (fun c_1 => ?_)
  · refine lv_aload_n hx hb dX4_remember_16 rfl (lv_at hl 0 rfl) ?_
    refine z_get hx hb hts iwX4_remember_4 hown hK hF.1 rfl 4 (by decide) flX4_remember_162 rfl (v := .int σ.2.2.2.2.2.1) rfl dX4_remember_17 ?_
    refine z_if_lt (tgt := 61) hx hb rfl dX4_remember_20 (by decide) (fun c_2 => ?_) (fun c_2 => ?_)
    · omega
    · refine lv_aload_n hx hb dX4_remember_23 rfl (lv_at hl 0 rfl) ?_
      refine z_get hx hb hts iwX4_remember_4 hown hK hF.1 rfl 4 (by decide) flX4_remember_162 rfl (v := .int σ.2.2.2.2.2.1) rfl dX4_remember_24 ?_
      refine lv_aload_n hx hb dX4_remember_27 rfl (lv_at hl 0 rfl) ?_
      refine z_get hx hb hts iwX4_remember_4 hown hK hF.1 rfl 3 (by decide) flX4_remember_19 rfl (v := .ref (z + 37)) rfl dX4_remember_28 ?_
      refine z_alen hx hb hK 4 hF.2.1 rfl (v := (4 : Int32)) rfl dX4_remember_31 ?_
      refine z_icmp_ge (tgt := 61) hx hb rfl kI_4 dX4_remember_32 (by decide) (fun c_3 => ?_) (fun c_3 => ?_)
      · omega
      · refine lv_aload_n hx hb dX4_remember_35 rfl (lv_at hl 0 rfl) ?_
        refine z_get hx hb hts iwX4_remember_4 hown hK hF.1 rfl 3 (by decide) flX4_remember_19 rfl (v := .ref (z + 37)) rfl dX4_remember_36 ?_
        refine lv_aload_n hx hb dX4_remember_39 rfl (lv_at hl 0 rfl) ?_
        refine z_get hx hb hts iwX4_remember_4 hown hK hF.1 rfl 4 (by decide) flX4_remember_162 rfl (v := .int σ.2.2.2.2.2.1) rfl dX4_remember_40 ?_
        have hpbhY4 : z + 38 ≤ σ.2.2.2.1 ((σ.2.2.2.2.2.1).toInt).toNat ∧ σ.2.2.2.1 ((σ.2.2.2.2.2.1).toInt).toNat + 18 ≤ z + 110 := hF.pa.1 (((σ.2.2.2.2.2.1).toInt).toNat) (by omega)
        have hY4 : ST G s.heap (σ.2.2.2.1 ((σ.2.2.2.2.2.1).toInt).toNat) (σ.2.2.2.2.1 ((σ.2.2.2.2.2.1).toInt).toNat) := hF.past (i := ((σ.2.2.2.2.2.1).toInt).toNat) (by omega)
        refine z_aald (b := σ.2.2.2.1 ((σ.2.2.2.2.2.1).toInt).toNat) hx hb hK 4 hF.2.1 rfl rfl (by omega) rfl dX4_remember_43 ?_
        refine lv_aload_n hx hb dX4_remember_44 rfl (lv_at hl 0 rfl) ?_
        have hN5 : ST G s.heap (z + 1) σ.1 := hF.now
        refine z_get hx hb hts iwX4_remember_4 hown hK hF.1 rfl 0 (by decide) flX4_remember_10 rfl (v := .ref (z + 1)) rfl dX4_remember_45 ?_
        refine z_cVv (As := [.ref (z + 1)]) (rest := []) ⟨hx, hb, hml, hown, hts⟩ (kX2_copyFrom l G (σ.2.2.2.1 ((σ.2.2.2.2.2.1).toInt).toNat) (σ.2.2.2.2.1 ((σ.2.2.2.2.2.1).toInt).toNat) (z + 1) σ.1 (by first | assumption | omega) hok.1) (cwV 1 hts gX4_remember_X2_copyFrom rfl rfl rfl hyX2_copyFrom ⟨Nat.le_of_ble_eq_true rfl, Nat.le_of_ble_eq_true rfl⟩) hK ⟨hY4, hN5⟩ hY4.1 rfl rfl hl.1 rfl (Nat.le_of_ble_eq_true rfl) dX4_remember_48 ⟨Nat.zero_le _, Nat.zero_le _⟩ hS (fun q h => by simp only [iv] at h ⊢; omega) (fun H locs hB hsz hq hS => ?_)
        obtain ⟨hY4, hN5⟩ := hB
        have hY4 : ST G H (σ.2.2.2.1 ((σ.2.2.2.2.2.1).toInt).toNat) σ.1 := hY4
        have hF : SFP G H z (σ.1, σ.2.1, σ.2.2.1, σ.2.2.2.1, va_up σ.2.2.2.2.1 ((σ.2.2.2.2.2.1).toInt).toNat σ.1, σ.2.2.2.2.2.1, σ.2.2.2.2.2.2) := hF.setPast (i := ((σ.2.2.2.2.2.1).toInt).toNat) (by omega) hY4 (fun q h1 h => hq q h1 (by simp only [iv]; omega))
        refine lv_aload_n hx hb dX4_remember_51 rfl (lv_at hl 0 rfl) ?_
        refine lv_dup hx hb dX4_remember_52 rfl ?_
        refine z_get hx hb hts iwX4_remember_4 hown hK hF.1 rfl 4 (by decide) flX4_remember_162 rfl (v := .int σ.2.2.2.2.2.1) rfl dX4_remember_53 ?_
        refine lv_iconst (v := (1 : Int32)) hx hb dX4_remember_56 (by decide) ?_
        refine z_iadd hx hb rfl kI_1 dX4_remember_57 (by omega) (fun z7 e7 => ?_)
        refine z_putFc hx hb hts iwX4_remember_4 hown hK hF hS (by simp only [iv]; omega) flX4_remember_162 dX4_remember_58 (fun H locs hF hsz hq hS => ?_)
        have hF : SFP G H z (σ.1, σ.2.1, σ.2.2.1, σ.2.2.2.1, va_up σ.2.2.2.2.1 ((σ.2.2.2.2.2.1).toInt).toNat σ.1, z7, σ.2.2.2.2.2.2) := hF
        have hY4 : ST G H (σ.2.2.2.1 ((σ.2.2.2.2.2.1).toInt).toNat) σ.1 := (hF.past (i := ((σ.2.2.2.2.2.1).toInt).toNat) (by omega)).to (by simp only [va_up_self, bx_uu])
        have hN5 : ST G H (z + 1) σ.1 := hF.now
        exact z_rv hx hb hr hlocks (rmF_to (hF.to (by unfold rmF; rw [rm1_f (by assumption), zi_eqOf e7]))) hS dX4_remember_61
  · refine lv_aload_n hx hb dX4_remember_12 rfl (lv_at hl 0 rfl) ?_
    refine z_cVv (As := []) (rest := []) ⟨hx, hb, hml, hown, hts⟩ (kX4_dropOldest l G z σ) (cwV 0 hts gX4_remember_X4_dropOldest rfl rfl rfl hyX4_dropOldest ⟨Nat.le_of_ble_eq_true rfl, Nat.le_of_ble_eq_true rfl⟩) hK hF hF.1 rfl rfl hl.1 rfl (Nat.le_of_ble_eq_true rfl) dX4_remember_13 ⟨Nat.zero_le _, Nat.zero_le _⟩ hS (fun q h => by simp only [iv] at h ⊢; omega) (fun H locs hB hsz hq hS => ?_)
    have hF := hB
    have hF : SFP G H z (drF σ) := hF
    have hdr : (drF σ).2.2.2.2.2.1.toInt = 3 := rfl
    refine lv_aload_n hx hb dX4_remember_16 rfl (lv_at hl 0 rfl) ?_
    refine z_get hx hb hts iwX4_remember_4 hown hK hF.1 rfl 4 (by decide) flX4_remember_162 rfl (v := .int ((drF σ).2.2.2.2.2.1)) rfl dX4_remember_17 ?_
    refine z_if_lt (tgt := 61) hx hb rfl dX4_remember_20 (by decide) (fun c_9 => ?_) (fun c_9 => ?_)
    · omega
    · refine lv_aload_n hx hb dX4_remember_23 rfl (lv_at hl 0 rfl) ?_
      refine z_get hx hb hts iwX4_remember_4 hown hK hF.1 rfl 4 (by decide) flX4_remember_162 rfl (v := .int ((drF σ).2.2.2.2.2.1)) rfl dX4_remember_24 ?_
      refine lv_aload_n hx hb dX4_remember_27 rfl (lv_at hl 0 rfl) ?_
      refine z_get hx hb hts iwX4_remember_4 hown hK hF.1 rfl 3 (by decide) flX4_remember_19 rfl (v := .ref (z + 37)) rfl dX4_remember_28 ?_
      refine z_alen hx hb hK 4 hF.2.1 rfl (v := (4 : Int32)) rfl dX4_remember_31 ?_
      refine z_icmp_ge (tgt := 61) hx hb rfl kI_4 dX4_remember_32 (by decide) (fun c_10 => ?_) (fun c_10 => ?_)
      · omega
      · refine lv_aload_n hx hb dX4_remember_35 rfl (lv_at hl 0 rfl) ?_
        refine z_get hx hb hts iwX4_remember_4 hown hK hF.1 rfl 3 (by decide) flX4_remember_19 rfl (v := .ref (z + 37)) rfl dX4_remember_36 ?_
        refine lv_aload_n hx hb dX4_remember_39 rfl (lv_at hl 0 rfl) ?_
        refine z_get hx hb hts iwX4_remember_4 hown hK hF.1 rfl 4 (by decide) flX4_remember_162 rfl (v := .int ((drF σ).2.2.2.2.2.1)) rfl dX4_remember_40 ?_
        have hpbhY11 : z + 38 ≤ ((drF σ).2.2.2.1) (((drF σ).2.2.2.2.2.1).toInt).toNat ∧ ((drF σ).2.2.2.1) (((drF σ).2.2.2.2.2.1).toInt).toNat + 18 ≤ z + 110 := hF.pa.1 ((((drF σ).2.2.2.2.2.1).toInt).toNat) (by omega)
        have hY11 : ST G H (((drF σ).2.2.2.1) (((drF σ).2.2.2.2.2.1).toInt).toNat) (((drF σ).2.2.2.2.1) (((drF σ).2.2.2.2.2.1).toInt).toNat) := hF.past (i := (((drF σ).2.2.2.2.2.1).toInt).toNat) (by omega)
        refine z_aald (b := ((drF σ).2.2.2.1) (((drF σ).2.2.2.2.2.1).toInt).toNat) hx hb hK 4 hF.2.1 rfl rfl (by omega) rfl dX4_remember_43 ?_
        refine lv_aload_n hx hb dX4_remember_44 rfl (lv_at hl 0 rfl) ?_
        have hN12 : ST G H (z + 1) ((drF σ).1) := hF.now
        refine z_get hx hb hts iwX4_remember_4 hown hK hF.1 rfl 0 (by decide) flX4_remember_10 rfl (v := .ref (z + 1)) rfl dX4_remember_45 ?_
        refine z_cVv (As := [.ref (z + 1)]) (rest := []) ⟨hx, hb, hml, hown, hts⟩ (kX2_copyFrom l G (((drF σ).2.2.2.1) (((drF σ).2.2.2.2.2.1).toInt).toNat) (((drF σ).2.2.2.2.1) (((drF σ).2.2.2.2.2.1).toInt).toNat) (z + 1) ((drF σ).1) (by first | assumption | omega) hok.1) (cwV 1 hts gX4_remember_X2_copyFrom rfl rfl rfl hyX2_copyFrom ⟨Nat.le_of_ble_eq_true rfl, Nat.le_of_ble_eq_true rfl⟩) hK ⟨hY11, hN12⟩ hY11.1 rfl rfl hl.1 rfl (Nat.le_of_ble_eq_true rfl) dX4_remember_48 ⟨Nat.zero_le _, Nat.zero_le _⟩ hS (fun q h => by simp only [iv] at h ⊢; omega) (fun H locs hB hsz hq hS => ?_)
        obtain ⟨hY11, hN12⟩ := hB
        have hY11 : ST G H (((drF σ).2.2.2.1) (((drF σ).2.2.2.2.2.1).toInt).toNat) ((drF σ).1) := hY11
        have hF : SFP G H z ((drF σ).1, (drF σ).2.1, (drF σ).2.2.1, (drF σ).2.2.2.1, va_up ((drF σ).2.2.2.2.1) (((drF σ).2.2.2.2.2.1).toInt).toNat ((drF σ).1), (drF σ).2.2.2.2.2.1, (drF σ).2.2.2.2.2.2) := hF.setPast (i := (((drF σ).2.2.2.2.2.1).toInt).toNat) (by omega) hY11 (fun q h1 h => hq q h1 (by simp only [iv]; omega))
        refine lv_aload_n hx hb dX4_remember_51 rfl (lv_at hl 0 rfl) ?_
        refine lv_dup hx hb dX4_remember_52 rfl ?_
        refine z_get hx hb hts iwX4_remember_4 hown hK hF.1 rfl 4 (by decide) flX4_remember_162 rfl (v := .int ((drF σ).2.2.2.2.2.1)) rfl dX4_remember_53 ?_
        refine lv_iconst (v := (1 : Int32)) hx hb dX4_remember_56 (by decide) ?_
        refine z_iadd hx hb rfl kI_1 dX4_remember_57 (by omega) (fun z14 e14 => ?_)
        refine z_putFc hx hb hts iwX4_remember_4 hown hK hF hS (by simp only [iv]; omega) flX4_remember_162 dX4_remember_58 (fun H locs hF hsz hq hS => ?_)
        have hF : SFP G H z ((drF σ).1, (drF σ).2.1, (drF σ).2.2.1, (drF σ).2.2.2.1, va_up ((drF σ).2.2.2.2.1) (((drF σ).2.2.2.2.2.1).toInt).toNat ((drF σ).1), z14, (drF σ).2.2.2.2.2.2) := hF
        have hY11 : ST G H (((drF σ).2.2.2.1) (((drF σ).2.2.2.2.2.1).toInt).toNat) ((drF σ).1) := (hF.past (i := (((drF σ).2.2.2.2.2.1).toInt).toNat) (by omega)).to (by simp only [va_up_self, bx_uu])
        have hN12 : ST G H (z + 1) ((drF σ).1) := hF.now
        exact z_rv hx hb hr hlocks (rmF_to (hF.to (by unfold rmF; rw [rm1_t (by assumption), zi_eqOf e14]))) hS dX4_remember_61

abbrev rmX4_setWave : Room := { frames := 6, cells := 0, slots := 0, locals := 132 }
theorem iwX4_setWave_2 : ∀ w ∈ wsX20, w ∈ wsX4_setWave := fun _ h => List.mem_cons_of_mem _ (List.mem_append_left _ (List.mem_append_left _ (List.mem_append_right _ h)))
theorem iwX4_setWave_4 : ∀ w ∈ wsX40, w ∈ wsX4_setWave := fun _ h => List.mem_cons_of_mem _ (List.mem_append_left _ (List.mem_append_left _ (List.mem_append_left _ (List.mem_append_right _ h))))
theorem flX4_setWave_10 : Cond.fieldLink RX4 10 "SiltedFloats" "now" "LSiltedFloats$State;" ∈ wsX4_setWave := by decide +kernel
theorem flX4_setWave_34 : Cond.fieldLink RX4 34 "SiltedFloats$State" "hour" "I" ∈ wsX4_setWave := by decide +kernel
theorem flX4_setWave_38 : Cond.fieldLink RX4 38 "SiltedFloats$State" "waves" "[LSiltedFloats$Wave;" ∈ wsX4_setWave := by decide +kernel
theorem flX4_setWave_c61 : Cond.constant RX4 61 (100000) ∈ wsX4_setWave := by decide +kernel
theorem hyX4_setWave : yX4_setWave.cls = RX4 ∧ yX4_setWave.cls ≠ "java/lang/invoke/MethodHandle" ∧ yX4_setWave.cls ≠ "java/lang/invoke/VarHandle" ∧ (parseMethodDescriptor yX4_setWave.desc).map (fun d => d.parameters.length) = some 4 := by decide +kernel
set_option maxHeartbeats 4000000 in
set_option maxRecDepth 100000 in
theorem kX4_setWave (l : Launch) (G : xG) (z : Nat) (σ : FD) (xw : Int32) (w : Int) (e_xw : xw.toInt = w) (xa : Int32) (a : Int) (e_xa : xa.toInt = a) (xb : Int32) (b : Int) (e_xb : xb.toInt = b) (xf : Int32) (f : Int) (e_xf : xf.toInt = f) (hok : fdOk σ) : Met l yX4_setWave wsX4_setWave rmX4_setWave (va_Pc [.ref z, .int xw, .int xa, .int xb, .int xf] (zPre G (fun H => SFP G H z σ))) (zW (fun v => v.toInt = a_setWave σ w a b f xa xb xf) (fun H => SFP G H z (s_setWave σ w a b f xa xb xf)) (iv z 112)) 0 0 (iv z 112) := by
  refine z_ofW (cc := cX4_setWave) (maxL := 5) (ret := some .int) (by decide +kernel) rfl (Nat.le_of_ble_eq_true rfl) ?_
  intro p e s m below meth c hx hb hml hr hts hown hlocks hK hP ls hl
  have hF := hP
  have hown : s.vm.findClass RX4 = some m.cls := hown
  have hl : lv_has ls 5 [(0, .ref z), (1, .int xw), (2, .int xa), (3, .int xb), (4, .int xf)] := hl
  have hS : va_S (iv z 112) s.heap s.heap [] := va_S.rf
  have hok1 := hok.1
  have hokh := hok1.1
  refine lv_iload_n hx hb dX4_setWave_0 rfl (lv_at hl 1 rfl) ?_
  refine z_if_lt (tgt := 9) hx hb e_xw dX4_setWave_1 (by decide) (fun c_1 => ?_) (fun c_1 => ?_)
  · refine lv_iconst (v := (-1 : Int32)) hx hb dX4_setWave_9 (by decide) ?_
    exact z_riw (v := (-1 : Int32)) hx hb hr hlocks (show (-1 : Int32).toInt = a_setWave σ w a b f xa xb xf from (by unfold a_setWave; (repeat' split) <;> first | rfl | omega | contradiction | assumption)) (hF.to (by unfold s_setWave; (repeat' split) <;> first | rfl | omega | contradiction)) hS dX4_setWave_10
  · refine lv_iload_n hx hb dX4_setWave_4 rfl (lv_at hl 1 rfl) ?_
    refine lv_iconst (v := (3 : Int32)) hx hb dX4_setWave_5 (by decide) ?_
    refine z_icmp_lt (tgt := 11) hx hb e_xw kI_3 dX4_setWave_6 (by decide) (fun c_2 => ?_) (fun c_2 => ?_)
    · refine lv_iload_n hx hb dX4_setWave_11 rfl (lv_at hl 2 rfl) ?_
      refine lv_iconst (v := (0 : Int32)) hx hb dX4_setWave_12 (by decide) ?_
      refine lv_sipush (v := (3000 : Int32)) hx hb dX4_setWave_13 (by decide) ?_
      refine z_cS (As := [.int xa, .int (0 : Int32), .int (3000 : Int32)]) (rest := []) ⟨hx, hb, hml, hown, hts⟩ (kX4_isWithin l G xa a e_xa (0 : Int32) (0 : Int) kI_0 (3000 : Int32) (3000 : Int) kI_3000) (va_cwS 3 hts gX4_setWave_X4_isWithin rfl rfl rfl hyX4_isWithin ⟨Nat.le_of_ble_eq_true rfl, Nat.le_of_ble_eq_true rfl⟩) hK trivial rfl hl.1 rfl (Nat.le_of_ble_eq_true rfl) dX4_setWave_16 ⟨Nat.zero_le _, Nat.zero_le _⟩ (fun z3 e3 => ?_)
      have e3 : isB z3 ((0 : Int) ≤ a ∧ a ≤ (3000 : Int)) := e3
      refine z_ifb_eq (tgt := 43) hx hb e3 dX4_setWave_19 (by decide) (fun c_4 => ?_) (fun c_4 => ?_)
      · refine lv_bipush (v := (-2 : Int32)) hx hb dX4_setWave_43 (by decide) ?_
        exact z_riw (v := (-2 : Int32)) hx hb hr hlocks (show (-2 : Int32).toInt = a_setWave σ w a b f xa xb xf from (by unfold a_setWave; (repeat' split) <;> first | rfl | omega | contradiction | assumption)) (hF.to (by unfold s_setWave; (repeat' split) <;> first | rfl | omega | contradiction)) hS dX4_setWave_45
      · refine lv_iload_n hx hb dX4_setWave_22 rfl (lv_at hl 3 rfl) ?_
        refine lv_iconst (v := (2 : Int32)) hx hb dX4_setWave_23 (by decide) ?_
        refine lv_bipush (v := (48 : Int32)) hx hb dX4_setWave_24 (by decide) ?_
        refine z_cS (As := [.int xb, .int (2 : Int32), .int (48 : Int32)]) (rest := []) ⟨hx, hb, hml, hown, hts⟩ (kX4_isWithin l G xb b e_xb (2 : Int32) (2 : Int) kI_2 (48 : Int32) (48 : Int) kI_48) (va_cwS 3 hts gX4_setWave_X4_isWithin rfl rfl rfl hyX4_isWithin ⟨Nat.le_of_ble_eq_true rfl, Nat.le_of_ble_eq_true rfl⟩) hK trivial rfl hl.1 rfl (Nat.le_of_ble_eq_true rfl) dX4_setWave_26 ⟨Nat.zero_le _, Nat.zero_le _⟩ (fun z5 e5 => ?_)
        have e5 : isB z5 ((2 : Int) ≤ b ∧ b ≤ (48 : Int)) := e5
        refine z_ifb_eq (tgt := 43) hx hb e5 dX4_setWave_29 (by decide) (fun c_6 => ?_) (fun c_6 => ?_)
        · refine lv_bipush (v := (-2 : Int32)) hx hb dX4_setWave_43 (by decide) ?_
          exact z_riw (v := (-2 : Int32)) hx hb hr hlocks (show (-2 : Int32).toInt = a_setWave σ w a b f xa xb xf from (by unfold a_setWave; (repeat' split) <;> first | rfl | omega | contradiction | assumption)) (hF.to (by unfold s_setWave; (repeat' split) <;> first | rfl | omega | contradiction)) hS dX4_setWave_45
        · refine lv_iload hx hb dX4_setWave_32 (lv_at hl 4 rfl) ?_
          refine lv_iconst (v := (0 : Int32)) hx hb dX4_setWave_34 (by decide) ?_
          refine lv_bipush (v := (47 : Int32)) hx hb dX4_setWave_35 (by decide) ?_
          refine z_cS (As := [.int xf, .int (0 : Int32), .int (47 : Int32)]) (rest := []) ⟨hx, hb, hml, hown, hts⟩ (kX4_isWithin l G xf f e_xf (0 : Int32) (0 : Int) kI_0 (47 : Int32) (47 : Int) kI_47) (va_cwS 3 hts gX4_setWave_X4_isWithin rfl rfl rfl hyX4_isWithin ⟨Nat.le_of_ble_eq_true rfl, Nat.le_of_ble_eq_true rfl⟩) hK trivial rfl hl.1 rfl (Nat.le_of_ble_eq_true rfl) dX4_setWave_37 ⟨Nat.zero_le _, Nat.zero_le _⟩ (fun z7 e7 => ?_)
          have e7 : isB z7 ((0 : Int) ≤ f ∧ f ≤ (47 : Int)) := e7
          refine z_ifb_ne (tgt := 46) hx hb e7 dX4_setWave_40 (by decide) (fun c_8 => ?_) (fun c_8 => ?_)
          · refine lv_aload_n hx hb dX4_setWave_46 rfl (lv_at hl 0 rfl) ?_
            have hN9 : ST G s.heap (z + 1) σ.1 := hF.now
            refine z_get hx hb hts iwX4_setWave_4 hown hK hF.1 rfl 0 (by decide) flX4_setWave_10 rfl (v := .ref (z + 1)) rfl dX4_setWave_47 ?_
            refine z_get hx hb hts iwX4_setWave_2 hown hK hN9.1 rfl 0 (by decide) flX4_setWave_34 rfl (v := .int σ.1.1) rfl dX4_setWave_50 ?_
            refine z_if_eq (tgt := 59) hx hb rfl dX4_setWave_53 (by decide) (fun c_10 => ?_) (fun c_10 => ?_)
            · refine lv_aload_n hx hb dX4_setWave_59 rfl (lv_at hl 0 rfl) ?_
              refine z_get hx hb hts iwX4_setWave_4 hown hK hF.1 rfl 0 (by decide) flX4_setWave_10 rfl (v := .ref (z + 1)) rfl dX4_setWave_60 ?_
              refine z_get hx hb hts iwX4_setWave_2 hown hK hN9.1 rfl 1 (by decide) flX4_setWave_38 rfl (v := .ref ((z + 1) + 1)) rfl dX4_setWave_63 ?_
              refine lv_iload_n hx hb dX4_setWave_66 rfl (lv_at hl 1 rfl) ?_
              have hV11 : WV G s.heap ((z + 1) + 2 + w.toNat) (σ.1.2.1 w.toNat) := hN9.wave (i := w.toNat) (by omega)
              refine z_aald (b := (z + 1) + 2 + w.toNat) hx hb hK 2 hN9.2.1 rfl e_xw (by omega) rfl dX4_setWave_67 ?_
              refine lv_iload_n hx hb dX4_setWave_68 rfl (lv_at hl 2 rfl) ?_
              refine lv_iload_n hx hb dX4_setWave_69 rfl (lv_at hl 3 rfl) ?_
              refine lv_iload hx hb dX4_setWave_70 (lv_at hl 4 rfl) ?_
              refine z_cV (As := [.int xa, .int xb, .int xf]) (rest := []) ⟨hx, hb, hml, hown, hts⟩ (kX3_isSo l G ((z + 1) + 2 + w.toNat) (σ.1.2.1 w.toNat) xa a e_xa xb b e_xb xf f e_xf) (cwV 3 hts gX4_setWave_X3_isSo rfl rfl rfl hyX3_isSo ⟨Nat.le_of_ble_eq_true rfl, Nat.le_of_ble_eq_true rfl⟩) hK hV11 hV11 rfl rfl hl.1 rfl (Nat.le_of_ble_eq_true rfl) dX4_setWave_72 ⟨Nat.zero_le _, Nat.zero_le _⟩ (fun z12 e12 => ?_)
              have e12 : isB z12 ((((σ.1.2.1 w.toNat) 0).toInt = a ∧ ((σ.1.2.1 w.toNat) 1).toInt = b) ∧ ((σ.1.2.1 w.toNat) 2).toInt = f) := e12
              refine z_ifb_eq (tgt := 81) hx hb e12 dX4_setWave_75 (by decide) (fun c_13 => ?_) (fun c_13 => ?_)
              · refine lv_aload_n hx hb dX4_setWave_81 rfl (lv_at hl 0 rfl) ?_
                refine z_cVv (As := []) (rest := []) ⟨hx, hb, hml, hown, hts⟩ (kX4_remember l G z σ (by first | assumption | omega)) (cwV 0 hts gX4_setWave_X4_remember rfl rfl rfl hyX4_remember ⟨Nat.le_of_ble_eq_true rfl, Nat.le_of_ble_eq_true rfl⟩) hK hF hF.1 rfl rfl hl.1 rfl (Nat.le_of_ble_eq_true rfl) dX4_setWave_82 ⟨Nat.zero_le _, Nat.zero_le _⟩ hS (fun q h => by simp only [iv] at h ⊢; omega) (fun H locs hB hsz hq hS => ?_)
                have hF := hB
                have hF : SFP G H z (σ.1, σ.2.1, σ.2.2.1, (rmF σ).2.2.2.1, (rmF σ).2.2.2.2.1, (rmF σ).2.2.2.2.2.1, σ.2.2.2.2.2.2) := hF
                have hN9 : ST G H (z + 1) σ.1 := hF.now
                have hV11 : WV G H ((z + 1) + 2 + w.toNat) (σ.1.2.1 w.toNat) := hN9.wave (i := w.toNat) (by omega)
                refine lv_aload_n hx hb dX4_setWave_85 rfl (lv_at hl 0 rfl) ?_
                refine z_get hx hb hts iwX4_setWave_4 hown hK hF.1 rfl 0 (by decide) flX4_setWave_10 rfl (v := .ref (z + 1)) rfl dX4_setWave_86 ?_
                refine z_get hx hb hts iwX4_setWave_2 hown hK hN9.1 rfl 1 (by decide) flX4_setWave_38 rfl (v := .ref ((z + 1) + 1)) rfl dX4_setWave_89 ?_
                refine lv_iload_n hx hb dX4_setWave_92 rfl (lv_at hl 1 rfl) ?_
                refine z_aald (b := (z + 1) + 2 + w.toNat) hx hb hK 2 hN9.2.1 rfl e_xw (by omega) rfl dX4_setWave_93 ?_
                refine lv_iload_n hx hb dX4_setWave_94 rfl (lv_at hl 2 rfl) ?_
                refine lv_iload_n hx hb dX4_setWave_95 rfl (lv_at hl 3 rfl) ?_
                refine lv_iload hx hb dX4_setWave_96 (lv_at hl 4 rfl) ?_
                refine z_cVv (As := [.int xa, .int xb, .int xf]) (rest := []) ⟨hx, hb, hml, hown, hts⟩ (kX3_become l G ((z + 1) + 2 + w.toNat) (σ.1.2.1 w.toNat) xa a e_xa xb b e_xb xf f e_xf) (cwV 3 hts gX4_setWave_X3_become rfl rfl rfl hyX3_become ⟨Nat.le_of_ble_eq_true rfl, Nat.le_of_ble_eq_true rfl⟩) hK hV11 hV11 rfl rfl hl.1 rfl (Nat.le_of_ble_eq_true rfl) dX4_setWave_98 ⟨Nat.zero_le _, Nat.zero_le _⟩ hS (fun q h => by simp only [iv] at h ⊢; omega) (fun H locs hB hsz hq hS => ?_)
                have hV11 := hB
                have hV11 : WV G H ((z + 1) + 2 + w.toNat) (upd (upd (upd (σ.1.2.1 w.toNat) 0 xa) 1 xb) 2 xf) := hV11
                have hN9 : ST G H (z + 1) (σ.1.1, va_up σ.1.2.1 w.toNat (upd (upd (upd (σ.1.2.1 w.toNat) 0 xa) 1 xb) 2 xf), σ.1.2.2) := hN9.setW (i := w.toNat) (by omega) hV11 (fun q h1 h => hq q h1 (by simp only [iv]; omega))
                have hF : SFP G H z ((σ.1.1, va_up σ.1.2.1 w.toNat (upd (upd (upd (σ.1.2.1 w.toNat) 0 xa) 1 xb) 2 xf), σ.1.2.2), σ.2.1, σ.2.2.1, ((rmF σ).2.2.2.1), ((rmF σ).2.2.2.2.1), ((rmF σ).2.2.2.2.2.1), σ.2.2.2.2.2.2) := hF.setNow hN9 (fun q h1 h => hq q h1 (by simp only [iv]; omega))
                have hwo : ∀ i, i < 3 → waveOk (newW σ w xa xb xf i) := newW_ok hok1.2.1 (by omega) e_xa (by omega) e_xb (by omega) e_xf (by omega)
                have hse := seaZ_b hwo 0
                refine lv_aload_n hx hb dX4_setWave_101 rfl (lv_at hl 0 rfl) ?_
                refine z_get hx hb hts iwX4_setWave_4 hown hK hF.1 rfl 0 (by decide) flX4_setWave_10 rfl (v := .ref (z + 1)) rfl dX4_setWave_102 ?_
                refine z_cVv (As := []) (rest := []) ⟨hx, hb, hml, hown, hts⟩ (kX2_settleFloats l G (z + 1) (σ.1.1, va_up σ.1.2.1 w.toNat (upd (upd (upd (σ.1.2.1 w.toNat) 0 xa) 1 xb) 2 xf), σ.1.2.2) hwo (fun i hi => (hok1.2.2 i hi).sta)) (cwV 0 hts gX4_setWave_X2_settleFloats rfl rfl rfl hyX2_settleFloats ⟨Nat.le_of_ble_eq_true rfl, Nat.le_of_ble_eq_true rfl⟩) hK hN9 hN9.1 rfl rfl hl.1 rfl (Nat.le_of_ble_eq_true rfl) dX4_setWave_105 ⟨Nat.zero_le _, Nat.zero_le _⟩ hS (fun q h => by simp only [iv] at h ⊢; omega) (fun H locs hB hsz hq hS => ?_)
                have hN9 := hB
                have hN9 : ST G H (z + 1) (settle (σ.1.1, va_up σ.1.2.1 w.toNat (upd (upd (upd (σ.1.2.1 w.toNat) 0 xa) 1 xb) 2 xf), σ.1.2.2)) := hN9
                have hF : SFP G H z (settle (σ.1.1, va_up σ.1.2.1 w.toNat (upd (upd (upd (σ.1.2.1 w.toNat) 0 xa) 1 xb) 2 xf), σ.1.2.2), σ.2.1, σ.2.2.1, ((rmF σ).2.2.2.1), ((rmF σ).2.2.2.2.1), ((rmF σ).2.2.2.2.2.1), σ.2.2.2.2.2.2) := hF.setNow hN9 (fun q h1 h => hq q h1 (by simp only [iv]; omega))
                have hV11 : WV G H ((z + 1) + 2 + w.toNat) (((settle (σ.1.1, va_up σ.1.2.1 w.toNat (upd (upd (upd (σ.1.2.1 w.toNat) 0 xa) 1 xb) 2 xf), σ.1.2.2)).2.1) w.toNat) := hN9.wave (i := w.toNat) (by omega)
                refine lv_aload_n hx hb dX4_setWave_108 rfl (lv_at hl 0 rfl) ?_
                refine z_get hx hb hts iwX4_setWave_4 hown hK hF.1 rfl 0 (by decide) flX4_setWave_10 rfl (v := .ref (z + 1)) rfl dX4_setWave_109 ?_
                refine lv_iconst (v := (0 : Int32)) hx hb dX4_setWave_112 (by decide) ?_
                refine z_cV (As := [.int (0 : Int32)]) (rest := []) ⟨hx, hb, hml, hown, hts⟩ (kX2_seaAt l G (z + 1) (settle (σ.1.1, va_up σ.1.2.1 w.toNat (upd (upd (upd (σ.1.2.1 w.toNat) 0 xa) 1 xb) 2 xf), σ.1.2.2)) (0 : Int32) (0 : Int) kI_0 hwo (by first | assumption | omega)) (cwV 1 hts gX4_setWave_X2_seaAt rfl rfl rfl hyX2_seaAt ⟨Nat.le_of_ble_eq_true rfl, Nat.le_of_ble_eq_true rfl⟩) hK hN9 hN9.1 rfl rfl hl.1 rfl (Nat.le_of_ble_eq_true rfl) dX4_setWave_113 ⟨Nat.zero_le _, Nat.zero_le _⟩ (fun z17 e17 => ?_)
                have e17 : z17.toInt = seaZ (settle (σ.1.1, va_up σ.1.2.1 w.toNat (upd (upd (upd (σ.1.2.1 w.toNat) 0 xa) 1 xb) 2 xf), σ.1.2.2)).2.1 (0 : Int) := e17
                have e17 : z17.toInt = seaZ (newW σ w xa xb xf) 0 := by rw [e17]; first | done | rfl
                refine lv_ldc (v := (100000 : Int32)) hx hb hown (hts _ flX4_setWave_c61) dX4_setWave_116 ?_
                refine z_iadd hx hb e17 kI_100000 dX4_setWave_118 (by omega) (fun z18 e18 => ?_)
                exact z_riw (v := z18) hx hb hr hlocks (show z18.toInt = a_setWave σ w a b f xa xb xf from (by unfold a_setWave; (repeat' split) <;> first | rfl | omega | contradiction | assumption)) (hF.to (by unfold s_setWave; (repeat' split) <;> first | rfl | omega | contradiction)) hS dX4_setWave_119
              · refine lv_bipush (v := (-5 : Int32)) hx hb dX4_setWave_78 (by decide) ?_
                exact z_riw (v := (-5 : Int32)) hx hb hr hlocks (show (-5 : Int32).toInt = a_setWave σ w a b f xa xb xf from (by unfold a_setWave; (repeat' split) <;> first | rfl | omega | contradiction | assumption)) (hF.to (by unfold s_setWave; (repeat' split) <;> first | rfl | omega | contradiction)) hS dX4_setWave_80
            · refine lv_bipush (v := (-4 : Int32)) hx hb dX4_setWave_56 (by decide) ?_
              exact z_riw (v := (-4 : Int32)) hx hb hr hlocks (show (-4 : Int32).toInt = a_setWave σ w a b f xa xb xf from (by unfold a_setWave; (repeat' split) <;> first | rfl | omega | contradiction | assumption)) (hF.to (by unfold s_setWave; (repeat' split) <;> first | rfl | omega | contradiction)) hS dX4_setWave_58
          · refine lv_bipush (v := (-2 : Int32)) hx hb dX4_setWave_43 (by decide) ?_
            exact z_riw (v := (-2 : Int32)) hx hb hr hlocks (show (-2 : Int32).toInt = a_setWave σ w a b f xa xb xf from (by unfold a_setWave; (repeat' split) <;> first | rfl | omega | contradiction | assumption)) (hF.to (by unfold s_setWave; (repeat' split) <;> first | rfl | omega | contradiction)) hS dX4_setWave_45
    · refine lv_iconst (v := (-1 : Int32)) hx hb dX4_setWave_9 (by decide) ?_
      exact z_riw (v := (-1 : Int32)) hx hb hr hlocks (show (-1 : Int32).toInt = a_setWave σ w a b f xa xb xf from (by unfold a_setWave; (repeat' split) <;> first | rfl | omega | contradiction | assumption)) (hF.to (by unfold s_setWave; (repeat' split) <;> first | rfl | omega | contradiction)) hS dX4_setWave_10

abbrev rmX4_setStation : Room := { frames := 5, cells := 0, slots := 0, locals := 111 }
theorem iwX4_setStation_0 : ∀ w ∈ wsX00, w ∈ wsX4_setStation := fun _ h => List.mem_cons_of_mem _ (List.mem_append_left _ (List.mem_append_right _ h))
theorem iwX4_setStation_2 : ∀ w ∈ wsX20, w ∈ wsX4_setStation := fun _ h => List.mem_cons_of_mem _ (List.mem_append_left _ (List.mem_append_left _ (List.mem_append_right _ h)))
theorem iwX4_setStation_4 : ∀ w ∈ wsX40, w ∈ wsX4_setStation := fun _ h => List.mem_cons_of_mem _ (List.mem_append_left _ (List.mem_append_left _ (List.mem_append_left _ (List.mem_append_right _ h))))
theorem flX4_setStation_10 : Cond.fieldLink RX4 10 "SiltedFloats" "now" "LSiltedFloats$State;" ∈ wsX4_setStation := by decide +kernel
theorem flX4_setStation_34 : Cond.fieldLink RX4 34 "SiltedFloats$State" "hour" "I" ∈ wsX4_setStation := by decide +kernel
theorem flX4_setStation_66 : Cond.fieldLink RX4 66 "SiltedFloats$State" "gauges" "[LSiltedFloats$Gauge;" ∈ wsX4_setStation := by decide +kernel
theorem flX4_setStation_78 : Cond.fieldLink RX4 78 "SiltedFloats$Gauge" "floatLevel" "I" ∈ wsX4_setStation := by decide +kernel
theorem flX4_setStation_c61 : Cond.constant RX4 61 (100000) ∈ wsX4_setStation := by decide +kernel
theorem hyX4_setStation : yX4_setStation.cls = RX4 ∧ yX4_setStation.cls ≠ "java/lang/invoke/MethodHandle" ∧ yX4_setStation.cls ≠ "java/lang/invoke/VarHandle" ∧ (parseMethodDescriptor yX4_setStation.desc).map (fun d => d.parameters.length) = some 4 := by decide +kernel
set_option maxHeartbeats 4000000 in
set_option maxRecDepth 100000 in
theorem kX4_setStation (l : Launch) (G : xG) (z : Nat) (σ : FD) (xt : Int32) (t : Int) (e_xt : xt.toInt = t) (xa : Int32) (a : Int) (e_xa : xa.toInt = a) (xb : Int32) (b : Int) (e_xb : xb.toInt = b) (xf : Int32) (f : Int) (e_xf : xf.toInt = f) (hok : fdOk σ) : Met l yX4_setStation wsX4_setStation rmX4_setStation (va_Pc [.ref z, .int xt, .int xa, .int xb, .int xf] (zPre G (fun H => SFP G H z σ))) (zW (fun v => v.toInt = a_setStation σ t a b f xa xb xf) (fun H => SFP G H z (s_setStation σ t a b f xa xb xf)) (iv z 112)) 0 0 (iv z 112) := by
  refine z_ofW (cc := cX4_setStation) (maxL := 6) (ret := some .int) (by decide +kernel) rfl (Nat.le_of_ble_eq_true rfl) ?_
  intro p e s m below meth c hx hb hml hr hts hown hlocks hK hP ls hl
  have hF := hP
  have hown : s.vm.findClass RX4 = some m.cls := hown
  have hl : lv_has ls 6 [(0, .ref z), (1, .int xt), (2, .int xa), (3, .int xb), (4, .int xf)] := hl
  have hS : va_S (iv z 112) s.heap s.heap [] := va_S.rf
  have hok1 := hok.1
  have hokh := hok1.1
  refine lv_iload_n hx hb dX4_setStation_0 rfl (lv_at hl 1 rfl) ?_
  refine z_cS (As := [.int xt]) (rest := []) ⟨hx, hb, hml, hown, hts⟩ (kX4_isStation l G xt t e_xt) (va_cwS 1 hts gX4_setStation_X4_isStation rfl rfl rfl hyX4_isStation ⟨Nat.le_of_ble_eq_true rfl, Nat.le_of_ble_eq_true rfl⟩) hK trivial rfl hl.1 rfl (Nat.le_of_ble_eq_true rfl) dX4_setStation_1 ⟨Nat.zero_le _, Nat.zero_le _⟩ (fun z1 e1 => ?_)
  have e1 : isB z1 (0 ≤ t ∧ t < 3) := e1
  refine z_ifb_ne (tgt := 9) hx hb e1 dX4_setStation_4 (by decide) (fun c_2 => ?_) (fun c_2 => ?_)
  · refine lv_iload_n hx hb dX4_setStation_9 rfl (lv_at hl 2 rfl) ?_
    refine lv_iconst (v := (0 : Int32)) hx hb dX4_setStation_10 (by decide) ?_
    refine lv_bipush (v := (12 : Int32)) hx hb dX4_setStation_11 (by decide) ?_
    refine z_cS (As := [.int xa, .int (0 : Int32), .int (12 : Int32)]) (rest := []) ⟨hx, hb, hml, hown, hts⟩ (kX4_isWithin l G xa a e_xa (0 : Int32) (0 : Int) kI_0 (12 : Int32) (12 : Int) kI_12) (va_cwS 3 hts gX4_setStation_X4_isWithin rfl rfl rfl hyX4_isWithin ⟨Nat.le_of_ble_eq_true rfl, Nat.le_of_ble_eq_true rfl⟩) hK trivial rfl hl.1 rfl (Nat.le_of_ble_eq_true rfl) dX4_setStation_13 ⟨Nat.zero_le _, Nat.zero_le _⟩ (fun z3 e3 => ?_)
    have e3 : isB z3 ((0 : Int) ≤ a ∧ a ≤ (12 : Int)) := e3
    refine z_ifb_eq (tgt := 45) hx hb e3 dX4_setStation_16 (by decide) (fun c_4 => ?_) (fun c_4 => ?_)
    · refine lv_bipush (v := (-2 : Int32)) hx hb dX4_setStation_45 (by decide) ?_
      exact z_riw (v := (-2 : Int32)) hx hb hr hlocks (show (-2 : Int32).toInt = a_setStation σ t a b f xa xb xf from (by unfold a_setStation; (repeat' split) <;> first | rfl | omega | contradiction | assumption | (rw [kI_m2]; first | done | rfl | assumption | rw [hfl]))) (hF.to (by unfold s_setStation; (repeat' split) <;> first | rfl | omega | contradiction)) hS dX4_setStation_47
    · refine lv_iload_n hx hb dX4_setStation_19 rfl (lv_at hl 3 rfl) ?_
      refine lv_bipush (v := (10 : Int32)) hx hb dX4_setStation_20 (by decide) ?_
      refine lv_sipush (v := (200 : Int32)) hx hb dX4_setStation_22 (by decide) ?_
      refine z_cS (As := [.int xb, .int (10 : Int32), .int (200 : Int32)]) (rest := []) ⟨hx, hb, hml, hown, hts⟩ (kX4_isWithin l G xb b e_xb (10 : Int32) (10 : Int) kI_10 (200 : Int32) (200 : Int) kI_200) (va_cwS 3 hts gX4_setStation_X4_isWithin rfl rfl rfl hyX4_isWithin ⟨Nat.le_of_ble_eq_true rfl, Nat.le_of_ble_eq_true rfl⟩) hK trivial rfl hl.1 rfl (Nat.le_of_ble_eq_true rfl) dX4_setStation_25 ⟨Nat.zero_le _, Nat.zero_le _⟩ (fun z5 e5 => ?_)
      have e5 : isB z5 ((10 : Int) ≤ b ∧ b ≤ (200 : Int)) := e5
      refine z_ifb_eq (tgt := 45) hx hb e5 dX4_setStation_28 (by decide) (fun c_6 => ?_) (fun c_6 => ?_)
      · refine lv_bipush (v := (-2 : Int32)) hx hb dX4_setStation_45 (by decide) ?_
        exact z_riw (v := (-2 : Int32)) hx hb hr hlocks (show (-2 : Int32).toInt = a_setStation σ t a b f xa xb xf from (by unfold a_setStation; (repeat' split) <;> first | rfl | omega | contradiction | assumption | (rw [kI_m2]; first | done | rfl | assumption | rw [hfl]))) (hF.to (by unfold s_setStation; (repeat' split) <;> first | rfl | omega | contradiction)) hS dX4_setStation_47
      · refine lv_iload hx hb dX4_setStation_31 (lv_at hl 4 rfl) ?_
        refine lv_sipush (v := (-2000 : Int32)) hx hb dX4_setStation_33 (by decide) ?_
        refine lv_sipush (v := (2000 : Int32)) hx hb dX4_setStation_36 (by decide) ?_
        refine z_cS (As := [.int xf, .int (-2000 : Int32), .int (2000 : Int32)]) (rest := []) ⟨hx, hb, hml, hown, hts⟩ (kX4_isWithin l G xf f e_xf (-2000 : Int32) (-2000 : Int) kI_m2000 (2000 : Int32) (2000 : Int) kI_2000) (va_cwS 3 hts gX4_setStation_X4_isWithin rfl rfl rfl hyX4_isWithin ⟨Nat.le_of_ble_eq_true rfl, Nat.le_of_ble_eq_true rfl⟩) hK trivial rfl hl.1 rfl (Nat.le_of_ble_eq_true rfl) dX4_setStation_39 ⟨Nat.zero_le _, Nat.zero_le _⟩ (fun z7 e7 => ?_)
        have e7 : isB z7 ((-2000 : Int) ≤ f ∧ f ≤ (2000 : Int)) := e7
        refine z_ifb_ne (tgt := 48) hx hb e7 dX4_setStation_42 (by decide) (fun c_8 => ?_) (fun c_8 => ?_)
        · refine lv_aload_n hx hb dX4_setStation_48 rfl (lv_at hl 0 rfl) ?_
          have hN9 : ST G s.heap (z + 1) σ.1 := hF.now
          refine z_get hx hb hts iwX4_setStation_4 hown hK hF.1 rfl 0 (by decide) flX4_setStation_10 rfl (v := .ref (z + 1)) rfl dX4_setStation_49 ?_
          refine z_get hx hb hts iwX4_setStation_2 hown hK hN9.1 rfl 0 (by decide) flX4_setStation_34 rfl (v := .int σ.1.1) rfl dX4_setStation_52 ?_
          refine z_if_eq (tgt := 61) hx hb rfl dX4_setStation_55 (by decide) (fun c_10 => ?_) (fun c_10 => ?_)
          · refine lv_aload_n hx hb dX4_setStation_61 rfl (lv_at hl 0 rfl) ?_
            refine z_get hx hb hts iwX4_setStation_4 hown hK hF.1 rfl 0 (by decide) flX4_setStation_10 rfl (v := .ref (z + 1)) rfl dX4_setStation_62 ?_
            refine z_get hx hb hts iwX4_setStation_2 hown hK hN9.1 rfl 2 (by decide) flX4_setStation_66 rfl (v := .ref ((z + 1) + 5)) rfl dX4_setStation_65 ?_
            refine lv_iload_n hx hb dX4_setStation_68 rfl (lv_at hl 1 rfl) ?_
            have hJ11 : GA G s.heap ((z + 1) + 6 + 4 * t.toNat) (σ.1.2.2 t.toNat) := hN9.gauge (i := t.toNat) (by omega)
            refine z_aald (b := (z + 1) + 6 + 4 * t.toNat) hx hb hK 3 hN9.2.2.1 rfl e_xt (by omega) rfl dX4_setStation_69 ?_
            refine lv_astore hx hb dX4_setStation_70 hl (by decide) rfl (fun ls hl => ?_)
            have hl : lv_has ls 6 [(5, .ref ((z + 1) + 6 + 4 * t.toNat)), (0, .ref z), (1, .int xt), (2, .int xa), (3, .int xb), (4, .int xf)] := hl
            refine lv_aload hx hb dX4_setStation_72 (lv_at hl 0 rfl) ?_
            refine lv_iload_n hx hb dX4_setStation_74 rfl (lv_at hl 3 rfl) ?_
            refine lv_iload_n hx hb dX4_setStation_75 rfl (lv_at hl 4 rfl) ?_
            refine lv_iload hx hb dX4_setStation_76 (lv_at hl 5 rfl) ?_
            refine z_cV (As := [.int xa, .int xb, .int xf]) (rest := []) ⟨hx, hb, hml, hown, hts⟩ (kX0_isSo l G ((z + 1) + 6 + 4 * t.toNat) (σ.1.2.2 t.toNat) xa a e_xa xb b e_xb xf f e_xf) (cwV 3 hts gX4_setStation_X0_isSo rfl rfl rfl hyX0_isSo ⟨Nat.le_of_ble_eq_true rfl, Nat.le_of_ble_eq_true rfl⟩) hK hJ11 hJ11.1 rfl rfl hl.1 rfl (Nat.le_of_ble_eq_true rfl) dX4_setStation_78 ⟨Nat.zero_le _, Nat.zero_le _⟩ (fun z12 e12 => ?_)
            have e12 : isB z12 ((((σ.1.2.2 t.toNat).1 0).toInt = a ∧ ((σ.1.2.2 t.toNat).1 1).toInt = b) ∧ ((σ.1.2.2 t.toNat).1 2).toInt = f) := e12
            refine z_ifb_eq (tgt := 87) hx hb e12 dX4_setStation_81 (by decide) (fun c_13 => ?_) (fun c_13 => ?_)
            · refine lv_aload_n hx hb dX4_setStation_87 rfl (lv_at hl 1 rfl) ?_
              refine z_cVv (As := []) (rest := []) ⟨hx, hb, hml, hown, hts⟩ (kX4_remember l G z σ (by first | assumption | omega)) (cwV 0 hts gX4_setStation_X4_remember rfl rfl rfl hyX4_remember ⟨Nat.le_of_ble_eq_true rfl, Nat.le_of_ble_eq_true rfl⟩) hK hF hF.1 rfl rfl hl.1 rfl (Nat.le_of_ble_eq_true rfl) dX4_setStation_88 ⟨Nat.zero_le _, Nat.zero_le _⟩ hS (fun q h => by simp only [iv] at h ⊢; omega) (fun H locs hB hsz hq hS => ?_)
              have hF := hB
              have hF : SFP G H z (σ.1, σ.2.1, σ.2.2.1, (rmF σ).2.2.2.1, (rmF σ).2.2.2.2.1, (rmF σ).2.2.2.2.2.1, σ.2.2.2.2.2.2) := hF
              have hN9 : ST G H (z + 1) σ.1 := hF.now
              have hJ11 : GA G H ((z + 1) + 6 + 4 * t.toNat) (σ.1.2.2 t.toNat) := hN9.gauge (i := t.toNat) (by omega)
              refine lv_aload hx hb dX4_setStation_91 (lv_at hl 0 rfl) ?_
              refine lv_iload_n hx hb dX4_setStation_93 rfl (lv_at hl 3 rfl) ?_
              refine lv_iload_n hx hb dX4_setStation_94 rfl (lv_at hl 4 rfl) ?_
              refine lv_iload hx hb dX4_setStation_95 (lv_at hl 5 rfl) ?_
              refine z_cVv (As := [.int xa, .int xb, .int xf]) (rest := []) ⟨hx, hb, hml, hown, hts⟩ (kX0_become l G ((z + 1) + 6 + 4 * t.toNat) (σ.1.2.2 t.toNat) xa a e_xa xb b e_xb xf f e_xf) (cwV 3 hts gX4_setStation_X0_become rfl rfl rfl hyX0_become ⟨Nat.le_of_ble_eq_true rfl, Nat.le_of_ble_eq_true rfl⟩) hK hJ11 hJ11.1 rfl rfl hl.1 rfl (Nat.le_of_ble_eq_true rfl) dX4_setStation_97 ⟨Nat.zero_le _, Nat.zero_le _⟩ hS (fun q h => by simp only [iv] at h ⊢; omega) (fun H locs hB hsz hq hS => ?_)
              have hJ11 := hB
              have hJ11 : GA G H ((z + 1) + 6 + 4 * t.toNat) (upd (upd (upd (σ.1.2.2 t.toNat).1 0 xa) 1 xb) 2 xf, (σ.1.2.2 t.toNat).2) := hJ11
              have hN9 : ST G H (z + 1) (σ.1.1, σ.1.2.1, va_up σ.1.2.2 t.toNat (upd (upd (upd (σ.1.2.2 t.toNat).1 0 xa) 1 xb) 2 xf, (σ.1.2.2 t.toNat).2)) := hN9.setG (i := t.toNat) (by omega) hJ11 (fun q h1 h => hq q h1 (by simp only [iv]; omega))
              have hF : SFP G H z ((σ.1.1, σ.1.2.1, va_up σ.1.2.2 t.toNat (upd (upd (upd (σ.1.2.2 t.toNat).1 0 xa) 1 xb) 2 xf, (σ.1.2.2 t.toNat).2)), σ.2.1, σ.2.2.1, ((rmF σ).2.2.2.1), ((rmF σ).2.2.2.2.1), ((rmF σ).2.2.2.2.2.1), σ.2.2.2.2.2.2) := hF.setNow hN9 (fun q h1 h => hq q h1 (by simp only [iv]; omega))
              have hgo : staOk (newG σ t xa xb xf) := newG_ok e_xa (by omega) e_xb (by omega) e_xf (by omega)
              have hwb := watZ_b (d := newG σ t xa xb xf) hok1.2.1 hgo 0
              refine lv_aload_n hx hb dX4_setStation_100 rfl (lv_at hl 1 rfl) ?_
              refine z_get hx hb hts iwX4_setStation_4 hown hK hF.1 rfl 0 (by decide) flX4_setStation_10 rfl (v := .ref (z + 1)) rfl dX4_setStation_101 ?_
              refine lv_aload hx hb dX4_setStation_104 (lv_at hl 0 rfl) ?_
              refine z_cVv (As := [.ref ((z + 1) + 6 + 4 * t.toNat)]) (rest := []) ⟨hx, hb, hml, hown, hts⟩ (kX2_settleFloat l G (z + 1) (σ.1.1, σ.1.2.1, va_up σ.1.2.2 t.toNat (upd (upd (upd (σ.1.2.2 t.toNat).1 0 xa) 1 xb) 2 xf, (σ.1.2.2 t.toNat).2)) t.toNat (by omega) hok1.2.1 (by show staOk (va_up σ.1.2.2 t.toNat (newG σ t xa xb xf) t.toNat); rw [va_up_self]; exact hgo)) (cwV 1 hts gX4_setStation_X2_settleFloat rfl rfl rfl hyX2_settleFloat ⟨Nat.le_of_ble_eq_true rfl, Nat.le_of_ble_eq_true rfl⟩) hK hN9 hN9.1 rfl rfl hl.1 rfl (Nat.le_of_ble_eq_true rfl) dX4_setStation_106 ⟨Nat.zero_le _, Nat.zero_le _⟩ hS (fun q h => by simp only [iv] at h ⊢; omega) (fun H locs hB hsz hq hS => ?_)
              have hN9 := hB
              have hN9 : ST G H (z + 1) (σ.1.1, σ.1.2.1, va_up (va_up σ.1.2.2 t.toNat (upd (upd (upd (σ.1.2.2 t.toNat).1 0 xa) 1 xb) 2 xf, (σ.1.2.2 t.toNat).2)) t.toNat (sfG σ.1.2.1 ((va_up σ.1.2.2 t.toNat (upd (upd (upd (σ.1.2.2 t.toNat).1 0 xa) 1 xb) 2 xf, (σ.1.2.2 t.toNat).2)) t.toNat))) := hN9
              have hN9 : ST G H (z + 1) (σ.1.1, σ.1.2.1, (va_up σ.1.2.2 t.toNat (sfG σ.1.2.1 ((upd (upd (upd (σ.1.2.2 t.toNat).1 0 xa) 1 xb) 2 xf, (σ.1.2.2 t.toNat).2))))) := hN9.to (by simp only [va_up_self, bx_uu])
              have hF : SFP G H z ((σ.1.1, σ.1.2.1, (va_up σ.1.2.2 t.toNat (sfG σ.1.2.1 ((upd (upd (upd (σ.1.2.2 t.toNat).1 0 xa) 1 xb) 2 xf, (σ.1.2.2 t.toNat).2))))), σ.2.1, σ.2.2.1, ((rmF σ).2.2.2.1), ((rmF σ).2.2.2.2.1), ((rmF σ).2.2.2.2.2.1), σ.2.2.2.2.2.2) := hF.setNow hN9 (fun q h1 h => hq q h1 (by simp only [iv]; omega))
              have hJ11 : GA G H ((z + 1) + 6 + 4 * t.toNat) (sfG σ.1.2.1 ((upd (upd (upd (σ.1.2.2 t.toNat).1 0 xa) 1 xb) 2 xf, (σ.1.2.2 t.toNat).2))) := (hN9.gauge (i := t.toNat) (by omega)).to (by simp only [va_up_self, bx_uu])
              have hfl : ((sfG σ.1.2.1 (upd (upd (upd (σ.1.2.2 t.toNat).1 0 xa) 1 xb) 2 xf, (σ.1.2.2 t.toNat).2)).1 3).toInt = watZ σ.1.2.1 (newG σ t xa xb xf) 0 := (show (Int32.ofInt (watZ σ.1.2.1 (newG σ t xa xb xf) 0)).toInt = _ from zi_ofI (by have := hwb; exact ⟨by omega, by omega⟩))
              refine lv_aload hx hb dX4_setStation_109 (lv_at hl 0 rfl) ?_
              refine z_get hx hb hts iwX4_setStation_0 hown hK hJ11.1 rfl 3 (by decide) flX4_setStation_78 rfl (v := .int (((sfG σ.1.2.1 ((upd (upd (upd (σ.1.2.2 t.toNat).1 0 xa) 1 xb) 2 xf, (σ.1.2.2 t.toNat).2))).1) 3)) rfl dX4_setStation_111 ?_
              refine lv_ldc (v := (100000 : Int32)) hx hb hown (hts _ flX4_setStation_c61) dX4_setStation_114 ?_
              refine z_iadd hx hb rfl kI_100000 dX4_setStation_116 (by omega) (fun z17 e17 => ?_)
              exact z_riw (v := z17) hx hb hr hlocks (show z17.toInt = a_setStation σ t a b f xa xb xf from (by unfold a_setStation; (repeat' split) <;> first | rfl | omega | contradiction | assumption | (rw [e17]; first | done | rfl | assumption | rw [hfl]))) (hF.to (by unfold s_setStation; (repeat' split) <;> first | rfl | omega | contradiction)) hS dX4_setStation_117
            · refine lv_bipush (v := (-5 : Int32)) hx hb dX4_setStation_84 (by decide) ?_
              exact z_riw (v := (-5 : Int32)) hx hb hr hlocks (show (-5 : Int32).toInt = a_setStation σ t a b f xa xb xf from (by unfold a_setStation; (repeat' split) <;> first | rfl | omega | contradiction | assumption | (rw [kI_m5]; first | done | rfl | assumption | rw [hfl]))) (hF.to (by unfold s_setStation; (repeat' split) <;> first | rfl | omega | contradiction)) hS dX4_setStation_86
          · refine lv_bipush (v := (-4 : Int32)) hx hb dX4_setStation_58 (by decide) ?_
            exact z_riw (v := (-4 : Int32)) hx hb hr hlocks (show (-4 : Int32).toInt = a_setStation σ t a b f xa xb xf from (by unfold a_setStation; (repeat' split) <;> first | rfl | omega | contradiction | assumption | (rw [kI_m4]; first | done | rfl | assumption | rw [hfl]))) (hF.to (by unfold s_setStation; (repeat' split) <;> first | rfl | omega | contradiction)) hS dX4_setStation_60
        · refine lv_bipush (v := (-2 : Int32)) hx hb dX4_setStation_45 (by decide) ?_
          exact z_riw (v := (-2 : Int32)) hx hb hr hlocks (show (-2 : Int32).toInt = a_setStation σ t a b f xa xb xf from (by unfold a_setStation; (repeat' split) <;> first | rfl | omega | contradiction | assumption | (rw [kI_m2]; first | done | rfl | assumption | rw [hfl]))) (hF.to (by unfold s_setStation; (repeat' split) <;> first | rfl | omega | contradiction)) hS dX4_setStation_47
  · refine lv_iconst (v := (-1 : Int32)) hx hb dX4_setStation_7 (by decide) ?_
    exact z_riw (v := (-1 : Int32)) hx hb hr hlocks (show (-1 : Int32).toInt = a_setStation σ t a b f xa xb xf from (by unfold a_setStation; (repeat' split) <;> first | rfl | omega | contradiction | assumption | (rw [kI_m1]; first | done | rfl | assumption | rw [hfl]))) (hF.to (by unfold s_setStation; (repeat' split) <;> first | rfl | omega | contradiction)) hS dX4_setStation_8
