abbrev rmX5_pass : Room := { frames := 4, cells := 0, slots := 0, locals := 93 }
theorem iwX5_pass_5 : ∀ w ∈ wsX50, w ∈ wsX5_pass := fun _ h => List.mem_cons_of_mem _ (List.mem_append_right _ h)
theorem flX5_pass_7 : Cond.fieldLink RX5 7 "SiltedFloatsModel" "s" "[I" ∈ wsX5_pass := by decide +kernel
theorem hyX5_pass : yX5_pass.cls = RX5 ∧ yX5_pass.cls ≠ "java/lang/invoke/MethodHandle" ∧ yX5_pass.cls ≠ "java/lang/invoke/VarHandle" ∧ (parseMethodDescriptor yX5_pass.desc).map (fun d => d.parameters.length) = some 1 := by decide +kernel
set_option maxHeartbeats 2000000 in
set_option maxRecDepth 100000 in
theorem kX5_pass (l : Launch) (G : xG) (o : Nat) (μ : MD) (x : Int32) (h : Int) (e_x : x.toInt = h) (σ : FD) (hRel : Rel σ μ) (hfd : fdOk σ) : Met l yX5_pass wsX5_pass rmX5_pass (va_Pc [.ref o, .int x] (zPre G (fun H => MO G H o μ))) (zW (fun v => v.toInt = a_pass σ h) (fun H => ∃ n9 : MD, MO G H o n9 ∧ (Rel (s_pass σ h) n9)) (iv o 5)) 0 0 (iv o 5) := by
  refine z_ofW (cc := cX5_pass) (maxL := 3) (ret := some .int) (by decide +kernel) rfl (Nat.le_of_ble_eq_true rfl) ?_
  intro p e s m below meth c hx hb hml hr hts hown hlocks hK hP ls hl
  have hM := hP
  have hown : s.vm.findClass RX5 = some m.cls := hown
  have hl : lv_has ls 3 [(0, .ref o), (1, .int x)] := hl
  have hS : va_S (iv o 5) s.heap s.heap [] := va_S.rf
  have hR := hRel.1
  have hok := hfd.1
  have hn0 := hR.1
  have hok1 := hok.1
  have hW := hR.w
  have hwo := hok.2.1
  have hkn : 0 ≤ (μ.1 2).toInt ∧ (μ.1 2).toInt ≤ 4 := by rw [hRel.2.1.1]; exact hfd.2.2.2.2.1
  refine lv_iload_n hx hb dX5_pass_0 rfl (lv_at hl 1 rfl) ?_
  refine lv_iconst (v := (1 : Int32)) hx hb dX5_pass_1 (by decide) ?_
  refine lv_bipush (v := (120 : Int32)) hx hb dX5_pass_2 (by decide) ?_
  refine z_cS (As := [.int x, .int (1 : Int32), .int (120 : Int32)]) (rest := []) ⟨hx, hb, hml, hown, hts⟩ (kX5_in l G x h e_x (1 : Int32) (1 : Int) kI_1 (120 : Int32) (120 : Int) kI_120) (va_cwS 3 hts gX5_pass_X5_in rfl rfl rfl hyX5_in ⟨Nat.le_of_ble_eq_true rfl, Nat.le_of_ble_eq_true rfl⟩) hK trivial rfl hl.1 rfl (Nat.le_of_ble_eq_true rfl) dX5_pass_4 ⟨Nat.zero_le _, Nat.zero_le _⟩ (fun z1 e1 => ?_)
  have e1 : isB z1 ((1 : Int) ≤ h ∧ h ≤ (120 : Int)) := e1
  refine z_ifb_ne (tgt := 13) hx hb e1 dX5_pass_7 (by decide) (fun c_2 => ?_) (fun c_2 => ?_)
  · refine lv_aload_n hx hb dX5_pass_13 rfl (lv_at hl 0 rfl) ?_
    refine z_get hx hb hts iwX5_pass_5 hown hK hM.1 rfl 0 (by decide) flX5_pass_7 rfl (v := .ref (o + 1)) rfl dX5_pass_14 ?_
    refine lv_iconst (v := (0 : Int32)) hx hb dX5_pass_17 (by decide) ?_
    refine z_iald (f := μ.2.1) hx hb hK 0 hM.2.1 rfl kI_0 (by omega) dX5_pass_18 ?_
    have hcl3 : (μ.2.1 (0 : Int).toNat).toInt = σ.1.1.toInt := hn0
    refine lv_iload_n hx hb dX5_pass_19 rfl (lv_at hl 1 rfl) ?_
    refine z_iadd hx hb hcl3 e_x dX5_pass_20 (by omega) (fun z4 e4 => ?_)
    refine lv_bipush (v := (120 : Int32)) hx hb dX5_pass_21 (by decide) ?_
    refine z_icmp_le (tgt := 29) hx hb e4 kI_120 dX5_pass_23 (by decide) (fun c_5 => ?_) (fun c_5 => ?_)
    · refine lv_aload_n hx hb dX5_pass_29 rfl (lv_at hl 0 rfl) ?_
      refine z_cVv (As := []) (rest := []) ⟨hx, hb, hml, hown, hts⟩ (kX5_know l G o μ (by first | assumption | omega)) (cwV 0 hts gX5_pass_X5_know rfl rfl rfl hyX5_know ⟨Nat.le_of_ble_eq_true rfl, Nat.le_of_ble_eq_true rfl⟩) hK hM hM.1 rfl rfl hl.1 rfl (Nat.le_of_ble_eq_true rfl) dX5_pass_30 ⟨Nat.zero_le _, Nat.zero_le _⟩ hS (fun q h => by simp only [iv] at h ⊢; omega) (fun H locs hB hsz hq hS => ?_)
      have hM := hB
      have hM : MO G H o (kwS μ, μ.2.1, kwB μ, μ.2.2.2) := hM
      refine lv_iconst (v := (0 : Int32)) hx hb dX5_pass_33 (by decide) ?_
      refine lv_istore_n hx hb dX5_pass_34 rfl hl (by decide) rfl (fun ls hl => ?_)
      have hl : lv_has ls 3 [(2, .int (0 : Int32)), (0, .ref o), (1, .int x)] := hl
      have cut35 : ∀ (n35 : Nat), ∀ (x2 : Int32) (i2 : Int) (_ : x2.toInt = i2) (d_hM : MD), (h - i2).toNat < n35 → (0 ≤ i2 ∧ i2 ≤ h) → (Rs (passN σ.1 i2.toNat) d_hM.2.1 ∧ d_hM.1 = kwS μ ∧ d_hM.2.2 = (kwB μ, μ.2.2.2)) → ∀ (H : Heap) (locs : List Loc), MO G H o d_hM → va_S (iv o 5) s.heap H locs → ∀ ls : Array Slot, lv_has ls 3 [(0, .ref o), (1, .int x), (2, .int x2)] → W p l e rmX5_pass s m ([.ref o, .int x] : List Value).toArray below meth c H locs 0 0 (MQ below (zW (fun v => v.toInt = a_pass σ h) (fun H => ∃ n9 : MD, MO G H o n9 ∧ (Rel (s_pass σ h) n9)) (iv o 5)) ([.ref o, .int x] : List Value).toArray s 0 0 (iv o 5)) (F0 m 35 ls []) := by
        intro n35
        induction n35 with
        | zero =>
          intro x2 i2 hx2 d_hM hmu35 hi35_0 hi35_1 H locs hM hS ls hl
          exact absurd hmu35 (Nat.not_lt_zero _)
        | succ n35 ih35 =>
          intro x2 i2 hx2 d_hM hmu35 hi35_0 hi35_1 H locs hM hS ls hl
          have hpo := passN_ok hok i2.toNat (by omega)
          refine lv_iload_n hx hb dX5_pass_35 rfl (lv_at hl 2 rfl) ?_
          refine lv_iload_n hx hb dX5_pass_36 rfl (lv_at hl 1 rfl) ?_
          refine z_icmp_ge (tgt := 50) hx hb hx2 e_x dX5_pass_37 (by decide) (fun c_7 => ?_) (fun c_7 => ?_)
          · refine lv_aload_n hx hb dX5_pass_50 rfl (lv_at hl 0 rfl) ?_
            refine z_get hx hb hts iwX5_pass_5 hown hK hM.1 rfl 0 (by decide) flX5_pass_7 rfl (v := .ref (o + 1)) rfl dX5_pass_51 ?_
            refine lv_iconst (v := (0 : Int32)) hx hb dX5_pass_54 (by decide) ?_
            refine z_iald (f := d_hM.2.1) hx hb hK 0 hM.2.1 rfl kI_0 (by omega) dX5_pass_55 ?_
            have hcl8 : (d_hM.2.1 (0 : Int).toNat).toInt = (passN σ.1 i2.toNat).1.toInt := hi35_1.1.1
            exact z_riw (v := d_hM.2.1 (0 : Int).toNat) hx hb hr hlocks (show (d_hM.2.1 (0 : Int).toNat).toInt = a_pass σ h from (by unfold a_pass; (repeat' split) <;> first | rfl | omega | contradiction | assumption)) ⟨_, hM, (by unfold s_pass; rw [if_pos (by omega)]; exact hRel.act hfd (hi35_1.1.to (by rw [show i2 = h by omega])) hi35_1.2.1 hi35_1.2.2)⟩ hS dX5_pass_56
          · refine lv_aload_n hx hb dX5_pass_40 rfl (lv_at hl 0 rfl) ?_
            refine z_cVv (As := []) (rest := []) ⟨hx, hb, hml, hown, hts⟩ (kX5_goBy l G o d_hM (passN σ.1 i2.toNat) hi35_1.1 hpo.1 (by first | assumption | omega)) (cwV 0 hts gX5_pass_X5_goBy rfl rfl rfl hyX5_goBy ⟨Nat.le_of_ble_eq_true rfl, Nat.le_of_ble_eq_true rfl⟩) hK hM hM.1 rfl rfl hl.1 rfl (Nat.le_of_ble_eq_true rfl) dX5_pass_41 ⟨Nat.zero_le _, Nat.zero_le _⟩ hS (fun q h => by simp only [iv] at h ⊢; omega) (fun H locs hB hsz hq hS => ?_)
            obtain ⟨m41, hM, hp41⟩ := hB
            have hM : MO G H o m41 := hM
            have hp41 : (Rs (pH1 (passN σ.1 i2.toNat)) m41.2.1 ∧ Mf d_hM m41) := hp41
            refine z_iinc (k := 2) hx hb dX5_pass_44 hl rfl hx2 (show (Int32.ofInt 1).toInt = (1 : Int) from rfl) (by omega) (by decide) (fun z10 e10 ls hl => ?_)
            have hl : lv_has ls 3 [(2, .int z10), (0, .ref o), (1, .int x)] := hl
            refine lv_goto (tgt := 35) hx hb dX5_pass_47 (by decide) ?_
            exact ih35 z10 (i2 + (1 : Int)) e10 m41 (by omega) (by omega) ⟨hp41.1.to (passN_s (by omega)).symm, hp41.2.1.trans hi35_1.2.1, hp41.2.2.trans hi35_1.2.2⟩ _ _ hM hS ls (lv_sub hl [1, 2, 0] rfl)
      exact cut35 (((h - (0 : Int)).toNat) + 1) (0 : Int32) (0 : Int) kI_0 (kwS μ, μ.2.1, kwB μ, μ.2.2.2) (Nat.lt_succ_self _) (by omega) ⟨hR, rfl, rfl⟩ _ _ hM hS ls (lv_sub hl [1, 2, 0] rfl)
    · refine lv_bipush (v := (-3 : Int32)) hx hb dX5_pass_26 (by decide) ?_
      exact z_riw (v := (-3 : Int32)) hx hb hr hlocks (show (-3 : Int32).toInt = a_pass σ h from (by unfold a_pass; (repeat' split) <;> first | rfl | omega | contradiction | assumption)) ⟨_, hM, (by unfold s_pass; rw [if_neg (by omega)]; exact hRel)⟩ hS dX5_pass_28
  · refine lv_bipush (v := (-2 : Int32)) hx hb dX5_pass_10 (by decide) ?_
    exact z_riw (v := (-2 : Int32)) hx hb hr hlocks (show (-2 : Int32).toInt = a_pass σ h from (by unfold a_pass; (repeat' split) <;> first | rfl | omega | contradiction | assumption)) ⟨_, hM, (by unfold s_pass; rw [if_neg (by omega)]; exact hRel)⟩ hS dX5_pass_12
