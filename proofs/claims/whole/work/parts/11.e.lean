abbrev rmX4_dropOldest : Room := { frames := 0, cells := 0, slots := 0, locals := 0 }
theorem iwX4_dropOldest_4 : ∀ w ∈ wsX40, w ∈ wsX4_dropOldest := fun _ h => List.mem_cons_of_mem _ (List.mem_append_right _ h)
theorem flX4_dropOldest_162 : Cond.fieldLink RX4 162 "SiltedFloats" "pastCount" "I" ∈ wsX4_dropOldest := by decide +kernel
theorem flX4_dropOldest_19 : Cond.fieldLink RX4 19 "SiltedFloats" "past" "[LSiltedFloats$State;" ∈ wsX4_dropOldest := by decide +kernel
theorem hyX4_dropOldest : yX4_dropOldest.cls = RX4 ∧ yX4_dropOldest.cls ≠ "java/lang/invoke/MethodHandle" ∧ yX4_dropOldest.cls ≠ "java/lang/invoke/VarHandle" ∧ (parseMethodDescriptor yX4_dropOldest.desc).map (fun d => d.parameters.length) = some 0 := by decide +kernel
set_option maxHeartbeats 4000000 in
set_option maxRecDepth 100000 in
theorem kX4_dropOldest (l : Launch) (G : xG) (z : Nat) (σ : FD) : Met l yX4_dropOldest wsX4_dropOldest rmX4_dropOldest (va_Pc [.ref z] (zPre G (fun H => SFP G H z σ))) (zV (fun H => SFP G H z (drF σ)) (iv z 112)) 0 0 (iv z 112) := by
  refine z_ofW (cc := cX4_dropOldest) (maxL := 3) (ret := none) (by decide +kernel) rfl (Nat.le_of_ble_eq_true rfl) ?_
  intro p e s m below meth c hx hb hml hr hts hown hlocks hK hP ls hl
  have hF := hP
  have hown : s.vm.findClass RX4 = some m.cls := hown
  have hl : lv_has ls 3 [(0, .ref z)] := hl
  have hS : va_S (iv z 112) s.heap s.heap [] := va_S.rf
  have hR := hF.raw
  refine lv_aload_n hx hb dX4_dropOldest_0 rfl (lv_at hl 0 rfl) ?_
  refine z_get hx hb hts iwX4_dropOldest_4 hown hK hR.1 rfl 3 (by decide) flX4_dropOldest_19 rfl (v := .ref (z + 37)) rfl dX4_dropOldest_1 ?_
  refine lv_iconst (v := (0 : Int32)) hx hb dX4_dropOldest_4 (by decide) ?_
  refine z_aald (b := (rtN σ.2.2.2.1 1) (0 : Int).toNat) hx hb hK 4 hR.2.1 rfl kI_0 (by omega) rfl dX4_dropOldest_5 ?_
  refine lv_astore_n hx hb dX4_dropOldest_6 rfl hl (by decide) rfl (fun ls hl => ?_)
  have hl : lv_has ls 3 [(1, .ref ((rtN σ.2.2.2.1 1) (0 : Int).toNat)), (0, .ref z)] := hl
  refine lv_iconst (v := (1 : Int32)) hx hb dX4_dropOldest_7 (by decide) ?_
  refine lv_istore_n hx hb dX4_dropOldest_8 rfl hl (by decide) rfl (fun ls hl => ?_)
  have hl : lv_has ls 3 [(2, .int (1 : Int32)), (1, .ref ((rtN σ.2.2.2.1 1) (0 : Int).toNat)), (0, .ref z)] := hl
  have cut9 : ∀ (n9 : Nat), ∀ (x2 : Int32) (i2 : Int) (_ : x2.toInt = i2), (4 - i2).toNat < n9 → (1 ≤ i2 ∧ i2 ≤ 4) → ∀ (H : Heap) (locs : List Loc), RW G H z (σ, rtN σ.2.2.2.1 i2, σ.2.2.2.2.2.1) → va_S (iv z 112) s.heap H locs → ∀ ls : Array Slot, lv_has ls 3 [(0, .ref z), (1, .ref ((rtN σ.2.2.2.1 1) (0 : Int).toNat)), (2, .int x2)] → W p l e rmX4_dropOldest s m ([.ref z] : List Value).toArray below meth c H locs 0 0 (MQ below (zV (fun H => SFP G H z (drF σ)) (iv z 112)) ([.ref z] : List Value).toArray s 0 0 (iv z 112)) (F0 m 9 ls []) := by
    intro n9
    induction n9 with
    | zero =>
      intro x2 i2 hx2 hmu9 hi9_0 H locs hR hS ls hl
      exact absurd hmu9 (Nat.not_lt_zero _)
    | succ n9 ih9 =>
      intro x2 i2 hx2 hmu9 hi9_0 H locs hR hS ls hl
      refine lv_iload_n hx hb dX4_dropOldest_9 rfl (lv_at hl 2 rfl) ?_
      refine lv_aload_n hx hb dX4_dropOldest_10 rfl (lv_at hl 0 rfl) ?_
      refine z_get hx hb hts iwX4_dropOldest_4 hown hK hR.1 rfl 3 (by decide) flX4_dropOldest_19 rfl (v := .ref (z + 37)) rfl dX4_dropOldest_11 ?_
      refine z_alen hx hb hK 4 hR.2.1 rfl (v := (4 : Int32)) rfl dX4_dropOldest_14 ?_
      refine z_icmp_ge (tgt := 38) hx hb hx2 kI_4 dX4_dropOldest_15 (by decide) (fun c_1 => ?_) (fun c_1 => ?_)
      · refine lv_aload_n hx hb dX4_dropOldest_38 rfl (lv_at hl 0 rfl) ?_
        refine z_get hx hb hts iwX4_dropOldest_4 hown hK hR.1 rfl 3 (by decide) flX4_dropOldest_19 rfl (v := .ref (z + 37)) rfl dX4_dropOldest_39 ?_
        refine lv_aload_n hx hb dX4_dropOldest_42 rfl (lv_at hl 0 rfl) ?_
        refine z_get hx hb hts iwX4_dropOldest_4 hown hK hR.1 rfl 3 (by decide) flX4_dropOldest_19 rfl (v := .ref (z + 37)) rfl dX4_dropOldest_43 ?_
        refine z_alen hx hb hK 4 hR.2.1 rfl (v := (4 : Int32)) rfl dX4_dropOldest_46 ?_
        refine lv_iconst (v := (1 : Int32)) hx hb dX4_dropOldest_47 (by decide) ?_
        refine z_isub hx hb kI_4 kI_1 dX4_dropOldest_48 (by omega) (fun z2 e2 => ?_)
        refine lv_aload_n hx hb dX4_dropOldest_49 rfl (lv_at hl 1 rfl) ?_
        refine z_aastR hx hb hK hR hS (by simp only [iv]; omega) ⟨0, by omega, by unfold rtN; rw [if_neg (by decide)]; rfl⟩ e2 (by omega) dX4_dropOldest_50 (fun H locs hR hsz hq hS => ?_)
        have hR : RW G H z (σ, va_up (rtN σ.2.2.2.1 i2) ((4 : Int) - (1 : Int)).toNat ((rtN σ.2.2.2.1 1) (0 : Int).toNat), σ.2.2.2.2.2.1) := hR
        refine lv_aload_n hx hb dX4_dropOldest_51 rfl (lv_at hl 0 rfl) ?_
        refine lv_aload_n hx hb dX4_dropOldest_52 rfl (lv_at hl 0 rfl) ?_
        refine z_get hx hb hts iwX4_dropOldest_4 hown hK hR.1 rfl 3 (by decide) flX4_dropOldest_19 rfl (v := .ref (z + 37)) rfl dX4_dropOldest_53 ?_
        refine z_alen hx hb hK 4 hR.2.1 rfl (v := (4 : Int32)) rfl dX4_dropOldest_56 ?_
        refine lv_iconst (v := (1 : Int32)) hx hb dX4_dropOldest_57 (by decide) ?_
        refine z_isub hx hb kI_4 kI_1 dX4_dropOldest_58 (by omega) (fun z3 e3 => ?_)
        refine z_putRc hx hb hts iwX4_dropOldest_4 hown hK hR hS (by simp only [iv]; omega) flX4_dropOldest_162 dX4_dropOldest_59 (fun H locs hR hsz hq hS => ?_)
        have hR : RW G H z (σ, va_up (rtN σ.2.2.2.1 i2) ((4 : Int) - (1 : Int)).toNat ((rtN σ.2.2.2.1 1) (0 : Int).toNat), z3) := hR
        exact z_rv hx hb hr hlocks (RW.done (hR.to (by rw [show z3 = (3 : Int32) from zi_ext e3 rfl]; rw [← rtN_e (f := σ.2.2.2.1) (i := i2) (by omega)]; rfl))) hS dX4_dropOldest_62
      · refine lv_aload_n hx hb dX4_dropOldest_18 rfl (lv_at hl 0 rfl) ?_
        refine z_get hx hb hts iwX4_dropOldest_4 hown hK hR.1 rfl 3 (by decide) flX4_dropOldest_19 rfl (v := .ref (z + 37)) rfl dX4_dropOldest_19 ?_
        refine lv_iload_n hx hb dX4_dropOldest_22 rfl (lv_at hl 2 rfl) ?_
        refine lv_iconst (v := (1 : Int32)) hx hb dX4_dropOldest_23 (by decide) ?_
        refine z_isub hx hb hx2 kI_1 dX4_dropOldest_24 (by omega) (fun z4 e4 => ?_)
        refine lv_aload_n hx hb dX4_dropOldest_25 rfl (lv_at hl 0 rfl) ?_
        refine z_get hx hb hts iwX4_dropOldest_4 hown hK hR.1 rfl 3 (by decide) flX4_dropOldest_19 rfl (v := .ref (z + 37)) rfl dX4_dropOldest_26 ?_
        refine lv_iload_n hx hb dX4_dropOldest_29 rfl (lv_at hl 2 rfl) ?_
        refine z_aald (b := (rtN σ.2.2.2.1 i2) i2.toNat) hx hb hK 4 hR.2.1 rfl hx2 (by omega) rfl dX4_dropOldest_30 ?_
        refine z_aastR hx hb hK hR hS (by simp only [iv]; omega) ⟨i2.toNat, by omega, by unfold rtN; rw [if_neg (by omega)]⟩ e4 (by omega) dX4_dropOldest_31 (fun H locs hR hsz hq hS => ?_)
        have hR : RW G H z (σ, va_up (rtN σ.2.2.2.1 i2) (i2 - (1 : Int)).toNat ((rtN σ.2.2.2.1 i2) i2.toNat), σ.2.2.2.2.2.1) := hR
        refine z_iinc (k := 2) hx hb dX4_dropOldest_32 hl rfl hx2 (show (Int32.ofInt 1).toInt = (1 : Int) from rfl) (by omega) (by decide) (fun z5 e5 ls hl => ?_)
        have hl : lv_has ls 3 [(2, .int z5), (0, .ref z), (1, .ref ((rtN σ.2.2.2.1 1) (0 : Int).toNat))] := hl
        refine lv_goto (tgt := 9) hx hb dX4_dropOldest_35 (by decide) ?_
        exact ih9 z5 (i2 + (1 : Int)) e5 (by omega) (by omega) _ _ (hR.to (by rw [rtN_s (by omega)])) hS ls (lv_sub hl [1, 2, 0] rfl)
  exact cut9 (((4 - (1 : Int)).toNat) + 1) (1 : Int32) (1 : Int) kI_1 (Nat.lt_succ_self _) (by omega) _ _ hR hS ls (lv_sub hl [2, 1, 0] rfl)
