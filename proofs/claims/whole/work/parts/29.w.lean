abbrev rmX5_mend : Room := { frames := 5, cells := 0, slots := 0, locals := 118 }
theorem iwX5_mend_5 : ∀ w ∈ wsX50, w ∈ wsX5_mend := fun _ h => List.mem_cons_of_mem _ (List.mem_append_right _ h)
theorem flX5_mend_7 : Cond.fieldLink RX5 7 "SiltedFloatsModel" "s" "[I" ∈ wsX5_mend := by decide +kernel
theorem hyX5_mend : yX5_mend.cls = RX5 ∧ yX5_mend.cls ≠ "java/lang/invoke/MethodHandle" ∧ yX5_mend.cls ≠ "java/lang/invoke/VarHandle" ∧ (parseMethodDescriptor yX5_mend.desc).map (fun d => d.parameters.length) = some 4 := by decide +kernel
set_option maxHeartbeats 2000000 in
set_option maxRecDepth 100000 in
theorem kX5_mend (l : Launch) (G : xG) (o : Nat) (μ : MD) (x : Int32) (t : Int) (e_x : x.toInt = t) (y : Int32) (k : Int) (e_y : y.toInt = k) (xu : Int32) (u : Int) (e_xu : xu.toInt = u) (xf : Int32) (f : Int) (e_xf : xf.toInt = f) (σ : FD) (hRel : Rel σ μ) (hfd : fdOk σ) : Met l yX5_mend wsX5_mend rmX5_mend (va_Pc [.ref o, .int x, .int y, .int xu, .int xf] (zPre G (fun H => MO G H o μ))) (zW (fun v => v.toInt = a_mend σ t k u f) (fun H => ∃ n9 : MD, MO G H o n9 ∧ (Rel (s_mend σ t k u f) n9)) (iv o 5)) 0 0 (iv o 5) := by
  refine z_ofW (cc := cX5_mend) (maxL := 10) (ret := some .int) (by decide +kernel) rfl (Nat.le_of_ble_eq_true rfl) ?_
  intro p e s m below meth c hx hb hml hr hts hown hlocks hK hP ls hl
  have hM := hP
  have hown : s.vm.findClass RX5 = some m.cls := hown
  have hl : lv_has ls 10 [(0, .ref o), (1, .int x), (2, .int y), (3, .int xu), (4, .int xf)] := hl
  have hS : va_S (iv o 5) s.heap s.heap [] := va_S.rf
  have hR := hRel.1
  have hok := hfd.1
  have hn0 := hR.1
  have hok1 := hok.1
  have hW := hR.w
  have hwo := hok.2.1
  have hkn : 0 ≤ (μ.1 2).toInt ∧ (μ.1 2).toInt ≤ 4 := by rw [hRel.2.1.1]; exact hfd.2.2.2.2.1
  refine lv_iload_n hx hb dX5_mend_0 rfl (lv_at hl 1 rfl) ?_
  refine z_cS (As := [.int x]) (rest := []) ⟨hx, hb, hml, hown, hts⟩ (kX5_isStation l G x t e_x) (va_cwS 1 hts gX5_mend_X5_isStation rfl rfl rfl hyX5_isStation ⟨Nat.le_of_ble_eq_true rfl, Nat.le_of_ble_eq_true rfl⟩) hK trivial rfl hl.1 rfl (Nat.le_of_ble_eq_true rfl) dX5_mend_1 ⟨Nat.zero_le _, Nat.zero_le _⟩ (fun z1 e1 => ?_)
  have e1 : isB z1 (0 ≤ t ∧ t < 3) := e1
  refine z_ifb_eq (tgt := 23) hx hb e1 dX5_mend_4 (by decide) (fun c_2 => ?_) (fun c_2 => ?_)
  · refine lv_iconst (v := (-1 : Int32)) hx hb dX5_mend_23 (by decide) ?_
    exact z_riw (v := (-1 : Int32)) hx hb hr hlocks (show (-1 : Int32).toInt = a_mend σ t k u f from (by unfold a_mend ckZ; (repeat' split) <;> first | rfl | omega | contradiction | assumption)) ⟨_, hM, (by unfold s_mend; rw [itC_f (fun q => by first | exact absurd q.2 (by assumption) | (have q1 := ckZ_0 q.1; first | omega | exact absurd q1.2.2.1 (by assumption) | exact absurd q1.2.2.2.2.2 (by assumption)))]; exact hRel)⟩ hS dX5_mend_24
  · have hgo := hok.2.2 t.toNat (by omega)
    have ht : 0 ≤ t ∧ t < 3 := c_2
    refine lv_aload_n hx hb dX5_mend_7 rfl (lv_at hl 0 rfl) ?_
    refine lv_iload_n hx hb dX5_mend_8 rfl (lv_at hl 1 rfl) ?_
    refine lv_iload_n hx hb dX5_mend_9 rfl (lv_at hl 2 rfl) ?_
    refine z_cV (As := [.int x, .int y]) (rest := []) ⟨hx, hb, hml, hown, hts⟩ (kX5_isGap l G o μ x t e_x y k e_y σ.1 (by first | assumption | omega) (by first | assumption | omega) (by first | assumption | omega)) (cwV 2 hts gX5_mend_X5_isGap rfl rfl rfl hyX5_isGap ⟨Nat.le_of_ble_eq_true rfl, Nat.le_of_ble_eq_true rfl⟩) hK hM hM.1 rfl rfl hl.1 rfl (Nat.le_of_ble_eq_true rfl) dX5_mend_10 ⟨Nat.zero_le _, Nat.zero_le _⟩ (fun z3 e3 => ?_)
    have e3 : isB z3 (fgZ (σ.1.2.2 t.toNat) k ≠ -1) := e3
    refine z_ifb_eq (tgt := 23) hx hb e3 dX5_mend_13 (by decide) (fun c_4 => ?_) (fun c_4 => ?_)
    · refine lv_iconst (v := (-1 : Int32)) hx hb dX5_mend_23 (by decide) ?_
      exact z_riw (v := (-1 : Int32)) hx hb hr hlocks (show (-1 : Int32).toInt = a_mend σ t k u f from (by unfold a_mend ckZ; (repeat' split) <;> first | rfl | omega | contradiction | assumption)) ⟨_, hM, (by unfold s_mend; rw [itC_f (fun q => by first | exact absurd q.2 (by assumption) | (have q1 := ckZ_0 q.1; first | omega | exact absurd q1.2.2.1 (by assumption) | exact absurd q1.2.2.2.2.2 (by assumption)))]; exact hRel)⟩ hS dX5_mend_24
    · have hgp : fgZ (σ.1.2.2 t.toNat) k ≠ -1 := c_4
      refine lv_iload_n hx hb dX5_mend_16 rfl (lv_at hl 3 rfl) ?_
      refine z_cS (As := [.int xu]) (rest := []) ⟨hx, hb, hml, hown, hts⟩ (kX5_isStation l G xu u e_xu) (va_cwS 1 hts gX5_mend_X5_isStation rfl rfl rfl hyX5_isStation ⟨Nat.le_of_ble_eq_true rfl, Nat.le_of_ble_eq_true rfl⟩) hK trivial rfl hl.1 rfl (Nat.le_of_ble_eq_true rfl) dX5_mend_17 ⟨Nat.zero_le _, Nat.zero_le _⟩ (fun z5 e5 => ?_)
      have e5 : isB z5 (0 ≤ u ∧ u < 3) := e5
      refine z_ifb_ne (tgt := 25) hx hb e5 dX5_mend_20 (by decide) (fun c_6 => ?_) (fun c_6 => ?_)
      · refine lv_iload hx hb dX5_mend_25 (lv_at hl 4 rfl) ?_
        refine lv_bipush (v := (-12 : Int32)) hx hb dX5_mend_27 (by decide) ?_
        refine lv_bipush (v := (12 : Int32)) hx hb dX5_mend_29 (by decide) ?_
        refine z_cS (As := [.int xf, .int (-12 : Int32), .int (12 : Int32)]) (rest := []) ⟨hx, hb, hml, hown, hts⟩ (kX5_in l G xf f e_xf (-12 : Int32) (-12 : Int) kI_m12 (12 : Int32) (12 : Int) kI_12) (va_cwS 3 hts gX5_mend_X5_in rfl rfl rfl hyX5_in ⟨Nat.le_of_ble_eq_true rfl, Nat.le_of_ble_eq_true rfl⟩) hK trivial rfl hl.1 rfl (Nat.le_of_ble_eq_true rfl) dX5_mend_31 ⟨Nat.zero_le _, Nat.zero_le _⟩ (fun z7 e7 => ?_)
        have e7 : isB z7 ((-12 : Int) ≤ f ∧ f ≤ (12 : Int)) := e7
        refine z_ifb_eq (tgt := 42) hx hb e7 dX5_mend_34 (by decide) (fun c_8 => ?_) (fun c_8 => ?_)
        · refine lv_bipush (v := (-2 : Int32)) hx hb dX5_mend_42 (by decide) ?_
          exact z_riw (v := (-2 : Int32)) hx hb hr hlocks (show (-2 : Int32).toInt = a_mend σ t k u f from (by unfold a_mend ckZ; (repeat' split) <;> first | rfl | omega | contradiction | assumption)) ⟨_, hM, (by unfold s_mend; rw [itC_f (fun q => by first | exact absurd q.2 (by assumption) | (have q1 := ckZ_0 q.1; first | omega | exact absurd q1.2.2.1 (by assumption) | exact absurd q1.2.2.2.2.2 (by assumption)))]; exact hRel)⟩ hS dX5_mend_44
        · refine lv_iload_n hx hb dX5_mend_37 rfl (lv_at hl 3 rfl) ?_
          refine lv_iload_n hx hb dX5_mend_38 rfl (lv_at hl 1 rfl) ?_
          refine z_icmp_ne (tgt := 45) hx hb e_xu e_x dX5_mend_39 (by decide) (fun c_9 => ?_) (fun c_9 => ?_)
          · refine lv_aload_n hx hb dX5_mend_45 rfl (lv_at hl 0 rfl) ?_
            refine lv_iload_n hx hb dX5_mend_46 rfl (lv_at hl 1 rfl) ?_
            refine lv_iload_n hx hb dX5_mend_47 rfl (lv_at hl 2 rfl) ?_
            refine z_cV (As := [.int x, .int y]) (rest := []) ⟨hx, hb, hml, hown, hts⟩ (kX5_isInner l G o μ x t e_x y k e_y σ.1 (by first | assumption | omega) (by first | assumption | omega) (by first | assumption | omega) (by first | assumption | omega)) (cwV 2 hts gX5_mend_X5_isInner rfl rfl rfl hyX5_isInner ⟨Nat.le_of_ble_eq_true rfl, Nat.le_of_ble_eq_true rfl⟩) hK hM hM.1 rfl rfl hl.1 rfl (Nat.le_of_ble_eq_true rfl) dX5_mend_48 ⟨Nat.zero_le _, Nat.zero_le _⟩ (fun z10 e10 => ?_)
            have e10 : isB z10 (inP (σ.1.2.2 t.toNat) k) := e10
            refine z_ifb_eq (tgt := 66) hx hb e10 dX5_mend_51 (by decide) (fun c_11 => ?_) (fun c_11 => ?_)
            · refine lv_bipush (v := (-4 : Int32)) hx hb dX5_mend_66 (by decide) ?_
              exact z_riw (v := (-4 : Int32)) hx hb hr hlocks (show (-4 : Int32).toInt = a_mend σ t k u f from (by unfold a_mend ckZ; (repeat' split) <;> first | rfl | omega | contradiction | assumption)) ⟨_, hM, (by unfold s_mend; rw [itC_f (fun q => by first | exact absurd q.2 (by assumption) | (have q1 := ckZ_0 q.1; first | omega | exact absurd q1.2.2.1 (by assumption) | exact absurd q1.2.2.2.2.2 (by assumption)))]; exact hRel)⟩ hS dX5_mend_68
            · have hin := c_11
              have hck : ckZ σ t k u f = 0 := by unfold ckZ; rw [if_neg (fun q => q ⟨by omega, by omega, hgp⟩), if_neg (by omega), if_pos c_11]
              refine lv_aload_n hx hb dX5_mend_54 rfl (lv_at hl 0 rfl) ?_
              refine lv_iload_n hx hb dX5_mend_55 rfl (lv_at hl 1 rfl) ?_
              refine lv_iload_n hx hb dX5_mend_56 rfl (lv_at hl 2 rfl) ?_
              refine lv_iload_n hx hb dX5_mend_57 rfl (lv_at hl 3 rfl) ?_
              refine lv_iload hx hb dX5_mend_58 (lv_at hl 4 rfl) ?_
              refine z_cV (As := [.int x, .int y, .int xu, .int xf]) (rest := []) ⟨hx, hb, hml, hown, hts⟩ (kX5_canMend l G o μ x t e_x y k e_y xu u e_xu xf f e_xf σ.1 (by first | assumption | omega) (by first | assumption | omega) (by first | assumption | omega) (by first | assumption | omega) (by first | assumption | omega) (by first | assumption | omega)) (cwV 4 hts gX5_mend_X5_canMend rfl rfl rfl hyX5_canMend ⟨Nat.le_of_ble_eq_true rfl, Nat.le_of_ble_eq_true rfl⟩) hK hM hM.1 rfl rfl hl.1 rfl (Nat.le_of_ble_eq_true rfl) dX5_mend_60 ⟨Nat.zero_le _, Nat.zero_le _⟩ (fun z12 e12 => ?_)
              have e12 : isB z12 (rdP (σ.1.2.2 u.toNat) (ahZ (σ.1.2.2 t.toNat) k + f) (bhZ (σ.1.2.2 t.toNat) k + f)) := e12
              refine z_ifb_ne (tgt := 69) hx hb e12 dX5_mend_63 (by decide) (fun c_13 => ?_) (fun c_13 => ?_)
              · have hrd := c_13
                have hrd9 : rdP (σ.1.2.2 u.toNat) (fgZ (σ.1.2.2 t.toNat) k - 1 + f) (hbZ (σ.1.2.2 t.toNat) (fgZ (σ.1.2.2 t.toNat) k) + f) := hrd
                have hu9 : 0 ≤ u ∧ u < 3 := by omega
                have hgu := hok.2.2 u.toNat (by omega)
                have hgb := gp_b hgo (by omega) hgp
                have ha0 : kindZ (σ.1.2.2 t.toNat) (fgZ (σ.1.2.2 t.toNat) k - 1) = 0 := hin.1
                have hb0 : kindZ (σ.1.2.2 t.toNat) (hbZ (σ.1.2.2 t.toNat) (fgZ (σ.1.2.2 t.toNat) k)) = 0 := hin.2
                have hka := (kindZ_in hgo (by omega) ha0).1
                have hkb := (kindZ_in hgo (by omega) hb0).1
                have hkc := hrd9 (fgZ (σ.1.2.2 t.toNat) k - 1 + f) (by omega) (by omega)
                have hkd := hrd9 (hbZ (σ.1.2.2 t.toNat) (fgZ (σ.1.2.2 t.toNat) k) + f) (by omega) (by omega)
                have hkc1 := (kindZ_in hgu (by omega) hkc).1
                have hkd1 := (kindZ_in hgu (by omega) hkd).1
                have hcr1 := cordZ_read hgo (by omega) ha0
                have hcr2 := cordZ_read hgo (by omega) hb0
                have hcr3 := cordZ_read hgu (by omega) hkc
                have hcr4 := cordZ_read hgu (by omega) hkd
                have hE1 : -40640 ≤ mdE (σ.1.2.2 t.toNat) (σ.1.2.2 u.toNat) (fgZ (σ.1.2.2 t.toNat) k - 1) f ∧ mdE (σ.1.2.2 t.toNat) (σ.1.2.2 u.toNat) (fgZ (σ.1.2.2 t.toNat) k - 1) f ≤ 40640 := by unfold mdE; omega
                have hE2 : -40640 ≤ mdE (σ.1.2.2 t.toNat) (σ.1.2.2 u.toNat) (hbZ (σ.1.2.2 t.toNat) (fgZ (σ.1.2.2 t.toNat) k)) f ∧ mdE (σ.1.2.2 t.toNat) (σ.1.2.2 u.toNat) (hbZ (σ.1.2.2 t.toNat) (fgZ (σ.1.2.2 t.toNat) k)) f ≤ 40640 := by unfold mdE; omega
                refine lv_aload_n hx hb dX5_mend_69 rfl (lv_at hl 0 rfl) ?_
                refine z_cVv (As := []) (rest := []) ⟨hx, hb, hml, hown, hts⟩ (kX5_know l G o μ (by first | assumption | omega)) (cwV 0 hts gX5_mend_X5_know rfl rfl rfl hyX5_know ⟨Nat.le_of_ble_eq_true rfl, Nat.le_of_ble_eq_true rfl⟩) hK hM hM.1 rfl rfl hl.1 rfl (Nat.le_of_ble_eq_true rfl) dX5_mend_70 ⟨Nat.zero_le _, Nat.zero_le _⟩ hS (fun q h => by simp only [iv] at h ⊢; omega) (fun H locs hB hsz hq hS => ?_)
                have hM := hB
                have hM : MO G H o (kwS μ, μ.2.1, kwB μ, μ.2.2.2) := hM
                refine lv_aload_n hx hb dX5_mend_73 rfl (lv_at hl 0 rfl) ?_
                refine lv_iload_n hx hb dX5_mend_74 rfl (lv_at hl 1 rfl) ?_
                refine lv_iload_n hx hb dX5_mend_75 rfl (lv_at hl 2 rfl) ?_
                refine z_cV (As := [.int x, .int y]) (rest := []) ⟨hx, hb, hml, hown, hts⟩ (kX5_beginOf l G o (kwS μ, μ.2.1, kwB μ, μ.2.2.2) x t e_x y k e_y σ.1 (by first | assumption | omega) (by first | assumption | omega) (by first | assumption | omega) (by first | assumption | omega)) (cwV 2 hts gX5_mend_X5_beginOf rfl rfl rfl hyX5_beginOf ⟨Nat.le_of_ble_eq_true rfl, Nat.le_of_ble_eq_true rfl⟩) hK hM hM.1 rfl rfl hl.1 rfl (Nat.le_of_ble_eq_true rfl) dX5_mend_76 ⟨Nat.zero_le _, Nat.zero_le _⟩ (fun z15 e15 => ?_)
                have e15 : z15.toInt = fgZ (σ.1.2.2 t.toNat) k := e15
                refine lv_iconst (v := (1 : Int32)) hx hb dX5_mend_79 (by decide) ?_
                refine z_isub hx hb e15 kI_1 dX5_mend_80 (by omega) (fun z16 e16 => ?_)
                refine lv_istore hx hb dX5_mend_81 hl (by decide) rfl (fun ls hl => ?_)
                have hl : lv_has ls 10 [(5, .int z16), (0, .ref o), (1, .int x), (2, .int y), (3, .int xu), (4, .int xf)] := hl
                refine lv_aload_n hx hb dX5_mend_83 rfl (lv_at hl 1 rfl) ?_
                refine lv_iload_n hx hb dX5_mend_84 rfl (lv_at hl 2 rfl) ?_
                refine lv_iload hx hb dX5_mend_85 (lv_at hl 0 rfl) ?_
                refine lv_iconst (v := (1 : Int32)) hx hb dX5_mend_87 (by decide) ?_
                refine z_iadd hx hb e16 kI_1 dX5_mend_88 (by omega) (fun z17 e17 => ?_)
                refine z_cV (As := [.int x, .int z17]) (rest := []) ⟨hx, hb, hml, hown, hts⟩ (kX5_endOf l G o (kwS μ, μ.2.1, kwB μ, μ.2.2.2) x t e_x z17 (((fgZ (σ.1.2.2 t.toNat) k) - (1 : Int)) + (1 : Int)) e17 σ.1 (by first | assumption | omega) (by first | assumption | omega) (by first | assumption | omega) (by rw [show fgZ (σ.1.2.2 t.toNat) k - 1 + 1 = fgZ (σ.1.2.2 t.toNat) k by omega]; exact hgb.2.2.1)) (cwV 2 hts gX5_mend_X5_endOf rfl rfl rfl hyX5_endOf ⟨Nat.le_of_ble_eq_true rfl, Nat.le_of_ble_eq_true rfl⟩) hK hM hM.1 rfl rfl hl.1 rfl (Nat.le_of_ble_eq_true rfl) dX5_mend_89 ⟨Nat.zero_le _, Nat.zero_le _⟩ (fun z18 e18 => ?_)
                have e18 : z18.toInt = hbZ (σ.1.2.2 t.toNat) (((fgZ (σ.1.2.2 t.toNat) k) - (1 : Int)) + (1 : Int)) - 1 := e18
                have e18 : z18.toInt = hbZ (σ.1.2.2 t.toNat) (fgZ (σ.1.2.2 t.toNat) k) - 1 := by rw [e18]; congr 2; omega
                refine lv_iconst (v := (1 : Int32)) hx hb dX5_mend_92 (by decide) ?_
                refine z_iadd hx hb e18 kI_1 dX5_mend_93 (by omega) (fun z19 e19 => ?_)
                have e19 : z19.toInt = hbZ (σ.1.2.2 t.toNat) (fgZ (σ.1.2.2 t.toNat) k) := by rw [e19]; omega
                refine lv_istore hx hb dX5_mend_94 hl (by decide) rfl (fun ls hl => ?_)
                have hl : lv_has ls 10 [(6, .int z19), (5, .int z16), (0, .ref o), (1, .int x), (2, .int y), (3, .int xu), (4, .int xf)] := hl
                refine lv_aload_n hx hb dX5_mend_96 rfl (lv_at hl 2 rfl) ?_
                refine lv_iload_n hx hb dX5_mend_97 rfl (lv_at hl 3 rfl) ?_
                refine lv_iload hx hb dX5_mend_98 (lv_at hl 1 rfl) ?_
                refine z_cV (As := [.int x, .int z16]) (rest := []) ⟨hx, hb, hml, hown, hts⟩ (kX5_corrected l G o (kwS μ, μ.2.1, kwB μ, μ.2.2.2) x t e_x z16 ((fgZ (σ.1.2.2 t.toNat) k) - (1 : Int)) e16 (σ.1.2.2 t.toNat) σ.1.1.toInt (hR.g ht) hgo (by first | assumption | omega) ht (by first | assumption | omega) ha0) (cwV 2 hts gX5_mend_X5_corrected rfl rfl rfl hyX5_corrected ⟨Nat.le_of_ble_eq_true rfl, Nat.le_of_ble_eq_true rfl⟩) hK hM hM.1 rfl rfl hl.1 rfl (Nat.le_of_ble_eq_true rfl) dX5_mend_100 ⟨Nat.zero_le _, Nat.zero_le _⟩ (fun z20 e20 => ?_)
                have e20 : z20.toInt = cordZ (σ.1.2.2 t.toNat) ((fgZ (σ.1.2.2 t.toNat) k) - (1 : Int)) := e20
                refine lv_aload_n hx hb dX5_mend_103 rfl (lv_at hl 2 rfl) ?_
                refine lv_iload_n hx hb dX5_mend_104 rfl (lv_at hl 5 rfl) ?_
                refine lv_iload hx hb dX5_mend_105 (lv_at hl 1 rfl) ?_
                refine lv_iload hx hb dX5_mend_107 (lv_at hl 6 rfl) ?_
                refine z_iadd hx hb e16 e_xf dX5_mend_109 (by omega) (fun z21 e21 => ?_)
                refine z_cV (As := [.int xu, .int z21]) (rest := [.int z20]) ⟨hx, hb, hml, hown, hts⟩ (kX5_corrected l G o (kwS μ, μ.2.1, kwB μ, μ.2.2.2) xu u e_xu z21 (((fgZ (σ.1.2.2 t.toNat) k) - (1 : Int)) + f) e21 (σ.1.2.2 u.toNat) σ.1.1.toInt (hR.g hu9) hgu (by first | assumption | omega) hu9 (by first | assumption | omega) hkc) (cwV 2 hts gX5_mend_X5_corrected rfl rfl rfl hyX5_corrected ⟨Nat.le_of_ble_eq_true rfl, Nat.le_of_ble_eq_true rfl⟩) hK hM hM.1 rfl rfl hl.1 rfl (Nat.le_of_ble_eq_true rfl) dX5_mend_110 ⟨Nat.zero_le _, Nat.zero_le _⟩ (fun z22 e22 => ?_)
                have e22 : z22.toInt = cordZ (σ.1.2.2 u.toNat) (((fgZ (σ.1.2.2 t.toNat) k) - (1 : Int)) + f) := e22
                refine z_isub hx hb e20 e22 dX5_mend_113 (by omega) (fun z23 e23 => ?_)
                have e23 : z23.toInt = mdE (σ.1.2.2 t.toNat) (σ.1.2.2 u.toNat) (fgZ (σ.1.2.2 t.toNat) k - 1) f := by rw [e23]; rfl
                refine lv_istore hx hb dX5_mend_114 hl (by decide) rfl (fun ls hl => ?_)
                have hl : lv_has ls 10 [(7, .int z23), (6, .int z19), (5, .int z16), (0, .ref o), (1, .int x), (2, .int y), (3, .int xu), (4, .int xf)] := hl
                refine lv_aload_n hx hb dX5_mend_116 rfl (lv_at hl 3 rfl) ?_
                refine lv_iload_n hx hb dX5_mend_117 rfl (lv_at hl 4 rfl) ?_
                refine lv_iload hx hb dX5_mend_118 (lv_at hl 1 rfl) ?_
                refine z_cV (As := [.int x, .int z19]) (rest := []) ⟨hx, hb, hml, hown, hts⟩ (kX5_corrected l G o (kwS μ, μ.2.1, kwB μ, μ.2.2.2) x t e_x z19 (hbZ (σ.1.2.2 t.toNat) (fgZ (σ.1.2.2 t.toNat) k)) e19 (σ.1.2.2 t.toNat) σ.1.1.toInt (hR.g ht) hgo (by first | assumption | omega) ht (by first | assumption | omega) hb0) (cwV 2 hts gX5_mend_X5_corrected rfl rfl rfl hyX5_corrected ⟨Nat.le_of_ble_eq_true rfl, Nat.le_of_ble_eq_true rfl⟩) hK hM hM.1 rfl rfl hl.1 rfl (Nat.le_of_ble_eq_true rfl) dX5_mend_120 ⟨Nat.zero_le _, Nat.zero_le _⟩ (fun z24 e24 => ?_)
                have e24 : z24.toInt = cordZ (σ.1.2.2 t.toNat) (hbZ (σ.1.2.2 t.toNat) (fgZ (σ.1.2.2 t.toNat) k)) := e24
                refine lv_aload_n hx hb dX5_mend_123 rfl (lv_at hl 3 rfl) ?_
                refine lv_iload_n hx hb dX5_mend_124 rfl (lv_at hl 6 rfl) ?_
                refine lv_iload hx hb dX5_mend_125 (lv_at hl 1 rfl) ?_
                refine lv_iload hx hb dX5_mend_127 (lv_at hl 7 rfl) ?_
                refine z_iadd hx hb e19 e_xf dX5_mend_129 (by omega) (fun z25 e25 => ?_)
                refine z_cV (As := [.int xu, .int z25]) (rest := [.int z24]) ⟨hx, hb, hml, hown, hts⟩ (kX5_corrected l G o (kwS μ, μ.2.1, kwB μ, μ.2.2.2) xu u e_xu z25 ((hbZ (σ.1.2.2 t.toNat) (fgZ (σ.1.2.2 t.toNat) k)) + f) e25 (σ.1.2.2 u.toNat) σ.1.1.toInt (hR.g hu9) hgu (by first | assumption | omega) hu9 (by first | assumption | omega) hkd) (cwV 2 hts gX5_mend_X5_corrected rfl rfl rfl hyX5_corrected ⟨Nat.le_of_ble_eq_true rfl, Nat.le_of_ble_eq_true rfl⟩) hK hM hM.1 rfl rfl hl.1 rfl (Nat.le_of_ble_eq_true rfl) dX5_mend_130 ⟨Nat.zero_le _, Nat.zero_le _⟩ (fun z26 e26 => ?_)
                have e26 : z26.toInt = cordZ (σ.1.2.2 u.toNat) ((hbZ (σ.1.2.2 t.toNat) (fgZ (σ.1.2.2 t.toNat) k)) + f) := e26
                refine z_isub hx hb e24 e26 dX5_mend_133 (by omega) (fun z27 e27 => ?_)
                have e27 : z27.toInt = mdE (σ.1.2.2 t.toNat) (σ.1.2.2 u.toNat) (hbZ (σ.1.2.2 t.toNat) (fgZ (σ.1.2.2 t.toNat) k)) f := by rw [e27]; rfl
                refine lv_istore hx hb dX5_mend_134 hl (by decide) rfl (fun ls hl => ?_)
                have hl : lv_has ls 10 [(8, .int z27), (7, .int z23), (6, .int z19), (5, .int z16), (0, .ref o), (1, .int x), (2, .int y), (3, .int xu), (4, .int xf)] := hl
                refine lv_iload hx hb dX5_mend_136 (lv_at hl 3 rfl) ?_
                refine lv_iconst (v := (1 : Int32)) hx hb dX5_mend_138 (by decide) ?_
                refine z_iadd hx hb e16 kI_1 dX5_mend_139 (by omega) (fun z28 e28 => ?_)
                refine lv_istore hx hb dX5_mend_140 hl (by decide) rfl (fun ls hl => ?_)
                have hl : lv_has ls 10 [(9, .int z28), (8, .int z27), (7, .int z23), (6, .int z19), (5, .int z16), (0, .ref o), (1, .int x), (2, .int y), (3, .int xu), (4, .int xf)] := hl
                have cut142 : ∀ (n142 : Nat), ∀ (x9 : Int32) (i9 : Int) (_ : x9.toInt = i9) (d_hM : MD), (hbZ (σ.1.2.2 t.toNat) (fgZ (σ.1.2.2 t.toNat) k) - i9).toNat < n142 → (fgZ (σ.1.2.2 t.toNat) k - 1 < i9 ∧ i9 ≤ hbZ (σ.1.2.2 t.toNat) (fgZ (σ.1.2.2 t.toNat) k)) → (Rs (setGF σ t (mdP (σ.1.2.2 t.toNat) (σ.1.2.2 u.toNat) (fgZ (σ.1.2.2 t.toNat) k - 1) (hbZ (σ.1.2.2 t.toNat) (fgZ (σ.1.2.2 t.toNat) k)) f i9)) d_hM.2.1 ∧ d_hM.1 = kwS μ ∧ d_hM.2.2 = (kwB μ, μ.2.2.2)) → ∀ (H : Heap) (locs : List Loc), MO G H o d_hM → va_S (iv o 5) s.heap H locs → ∀ ls : Array Slot, lv_has ls 10 [(0, .ref o), (1, .int x), (2, .int y), (3, .int xu), (4, .int xf), (5, .int z16), (6, .int z19), (7, .int z23), (8, .int z27), (9, .int x9)] → W p l e rmX5_mend s m ([.ref o, .int x, .int y, .int xu, .int xf] : List Value).toArray below meth c H locs 0 0 (MQ below (zW (fun v => v.toInt = a_mend σ t k u f) (fun H => ∃ n9 : MD, MO G H o n9 ∧ (Rel (s_mend σ t k u f) n9)) (iv o 5)) ([.ref o, .int x, .int y, .int xu, .int xf] : List Value).toArray s 0 0 (iv o 5)) (F0 m 142 ls []) := by
                  intro n142
                  induction n142 with
                  | zero =>
                    intro x9 i9 hx9 d_hM hmu142 hi142_0 hi142_1 H locs hM hS ls hl
                    exact absurd hmu142 (Nat.not_lt_zero _)
                  | succ n142 ih142 =>
                    intro x9 i9 hx9 d_hM hmu142 hi142_0 hi142_1 H locs hM hS ls hl
                    have hso9 := setGF_ok (t := t) hok (mdP_ok (i := i9) (by omega) hgo hgu ha0 hb0 hrd9 (by omega) (by omega))
                    refine lv_iload hx hb dX5_mend_142 (lv_at hl 9 rfl) ?_
                    refine lv_iload hx hb dX5_mend_144 (lv_at hl 6 rfl) ?_
                    refine z_icmp_ge (tgt := 219) hx hb hx9 e19 dX5_mend_146 (by decide) (fun c_29 => ?_) (fun c_29 => ?_)
                    · refine lv_iload hx hb dX5_mend_219 (lv_at hl 6 rfl) ?_
                      refine lv_iload hx hb dX5_mend_221 (lv_at hl 5 rfl) ?_
                      refine z_isub hx hb e19 e16 dX5_mend_223 (by omega) (fun z30 e30 => ?_)
                      refine lv_iconst (v := (1 : Int32)) hx hb dX5_mend_224 (by decide) ?_
                      refine z_isub hx hb e30 kI_1 dX5_mend_225 (by omega) (fun z31 e31 => ?_)
                      exact z_riw (v := z31) hx hb hr hlocks (show z31.toInt = a_mend σ t k u f from (by unfold a_mend; rw [if_neg (by omega)]; refine (e31).trans (Eq.trans ?_ (itC_t hrd).symm); unfold ahZ bhZ; omega)) ⟨_, hM, (by unfold s_mend; rw [itC_t ⟨hck, hrd⟩]; exact hRel.act hfd (hi142_1.1.to (by rw [show i9 = hbZ (σ.1.2.2 t.toNat) (fgZ (σ.1.2.2 t.toNat) k) by omega]; rfl)) hi142_1.2.1 hi142_1.2.2)⟩ hS dX5_mend_226
                    · have hke := hrd9 (i9 + f) (by omega) (by omega)
                      have hke1 := (kindZ_in hgu (by omega) hke).1
                      have hcr5 := cordZ_read hgu (by omega) hke
                      have hki : kindZ (σ.1.2.2 t.toNat) i9 ≠ 0 := ((ig_iff hgo (by omega)).mp (hb_ig (i9 - fgZ (σ.1.2.2 t.toNat) k).toNat (fgZ (σ.1.2.2 t.toNat) k) i9 (Nat.le_refl _) (by omega) (by omega))).2
                      have hmb := mul_b (a := (mdE (σ.1.2.2 t.toNat) (σ.1.2.2 u.toNat) (hbZ (σ.1.2.2 t.toNat) (fgZ (σ.1.2.2 t.toNat) k)) f - mdE (σ.1.2.2 t.toNat) (σ.1.2.2 u.toNat) (fgZ (σ.1.2.2 t.toNat) k - 1) f)) (b := i9 - (fgZ (σ.1.2.2 t.toNat) k - 1)) (A := 81280) (B := 120) (by omega) (by omega)
                      have hsb := shZ_b2 (w := (mdE (σ.1.2.2 t.toNat) (σ.1.2.2 u.toNat) (hbZ (σ.1.2.2 t.toNat) (fgZ (σ.1.2.2 t.toNat) k)) f - mdE (σ.1.2.2 t.toNat) (σ.1.2.2 u.toNat) (fgZ (σ.1.2.2 t.toNat) k - 1) f)) (h := i9 - (fgZ (σ.1.2.2 t.toNat) k - 1)) (a := hbZ (σ.1.2.2 t.toNat) (fgZ (σ.1.2.2 t.toNat) k) - (fgZ (σ.1.2.2 t.toNat) k - 1)) (by omega)
                      have hsq : shZ (mdE (σ.1.2.2 t.toNat) (σ.1.2.2 u.toNat) (hbZ (σ.1.2.2 t.toNat) (fgZ (σ.1.2.2 t.toNat) k)) f - mdE (σ.1.2.2 t.toNat) (σ.1.2.2 u.toNat) (fgZ (σ.1.2.2 t.toNat) k - 1) f) (i9 - (fgZ (σ.1.2.2 t.toNat) k - 1)) (hbZ (σ.1.2.2 t.toNat) (fgZ (σ.1.2.2 t.toNat) k) - (fgZ (σ.1.2.2 t.toNat) k - 1)) = (mdE (σ.1.2.2 t.toNat) (σ.1.2.2 u.toNat) (hbZ (σ.1.2.2 t.toNat) (fgZ (σ.1.2.2 t.toNat) k)) f - mdE (σ.1.2.2 t.toNat) (σ.1.2.2 u.toNat) (fgZ (σ.1.2.2 t.toNat) k - 1) f) * (i9 - (fgZ (σ.1.2.2 t.toNat) k - 1)) / (hbZ (σ.1.2.2 t.toNat) (fgZ (σ.1.2.2 t.toNat) k) - (fgZ (σ.1.2.2 t.toNat) k - 1)) := if_neg (by omega)
                      refine lv_aload_n hx hb dX5_mend_149 rfl (lv_at hl 0 rfl) ?_
                      refine z_get hx hb hts iwX5_mend_5 hown hK hM.1 rfl 0 (by decide) flX5_mend_7 rfl (v := .ref (o + 1)) rfl dX5_mend_150 ?_
                      refine lv_iload_n hx hb dX5_mend_153 rfl (lv_at hl 1 rfl) ?_
                      refine lv_sipush (v := (369 : Int32)) hx hb dX5_mend_154 (by decide) ?_
                      refine lv_iload hx hb dX5_mend_157 (lv_at hl 9 rfl) ?_
                      refine z_iadd hx hb kI_369 hx9 dX5_mend_159 (by omega) (fun z32 e32 => ?_)
                      refine z_cS (As := [.int x, .int z32]) (rest := [.ref (o + 1)]) ⟨hx, hb, hml, hown, hts⟩ (kX5_of l G x t e_x z32 ((369 : Int) + i9) e32 (by first | assumption | omega)) (va_cwS 2 hts gX5_mend_X5_of rfl rfl rfl hyX5_of ⟨Nat.le_of_ble_eq_true rfl, Nat.le_of_ble_eq_true rfl⟩) hK trivial rfl hl.1 rfl (Nat.le_of_ble_eq_true rfl) dX5_mend_160 ⟨Nat.zero_le _, Nat.zero_le _⟩ (fun z33 e33 => ?_)
                      have e33 : z33.toInt = 10 + 731 * t + ((369 : Int) + i9) := e33
                      refine lv_iconst (v := (1 : Int32)) hx hb dX5_mend_163 (by decide) ?_
                      refine z_iastMs hx hb hK hM hS (by simp only [iv]; omega) e33 (by omega) dX5_mend_164 (fun H locs hM hsz hq hS => ?_)
                      have hM : MO G H o (d_hM.1, upd d_hM.2.1 (10 + 731 * t + ((369 : Int) + i9)).toNat (1 : Int32), d_hM.2.2.1, d_hM.2.2.2.1, d_hM.2.2.2.2) := hM
                      refine lv_aload_n hx hb dX5_mend_165 rfl (lv_at hl 0 rfl) ?_
                      refine z_get hx hb hts iwX5_mend_5 hown hK hM.1 rfl 0 (by decide) flX5_mend_7 rfl (v := .ref (o + 1)) rfl dX5_mend_166 ?_
                      refine lv_iload_n hx hb dX5_mend_169 rfl (lv_at hl 1 rfl) ?_
                      refine lv_sipush (v := (249 : Int32)) hx hb dX5_mend_170 (by decide) ?_
                      refine lv_iload hx hb dX5_mend_173 (lv_at hl 9 rfl) ?_
                      refine z_iadd hx hb kI_249 hx9 dX5_mend_175 (by omega) (fun z34 e34 => ?_)
                      refine z_cS (As := [.int x, .int z34]) (rest := [.ref (o + 1)]) ⟨hx, hb, hml, hown, hts⟩ (kX5_of l G x t e_x z34 ((249 : Int) + i9) e34 (by first | assumption | omega)) (va_cwS 2 hts gX5_mend_X5_of rfl rfl rfl hyX5_of ⟨Nat.le_of_ble_eq_true rfl, Nat.le_of_ble_eq_true rfl⟩) hK trivial rfl hl.1 rfl (Nat.le_of_ble_eq_true rfl) dX5_mend_176 ⟨Nat.zero_le _, Nat.zero_le _⟩ (fun z35 e35 => ?_)
                      have e35 : z35.toInt = 10 + 731 * t + ((249 : Int) + i9) := e35
                      refine lv_aload_n hx hb dX5_mend_179 rfl (lv_at hl 0 rfl) ?_
                      refine lv_iload_n hx hb dX5_mend_180 rfl (lv_at hl 3 rfl) ?_
                      refine lv_iload hx hb dX5_mend_181 (lv_at hl 9 rfl) ?_
                      refine lv_iload hx hb dX5_mend_183 (lv_at hl 4 rfl) ?_
                      refine z_iadd hx hb hx9 e_xf dX5_mend_185 (by omega) (fun z36 e36 => ?_)
                      refine z_cV (As := [.int xu, .int z36]) (rest := [.int z35, .ref (o + 1)]) ⟨hx, hb, hml, hown, hts⟩ (kX5_corrected l G o (d_hM.1, upd d_hM.2.1 (10 + 731 * t + ((369 : Int) + i9)).toNat (1 : Int32), d_hM.2.2.1, d_hM.2.2.2.1, d_hM.2.2.2.2) xu u e_xu z36 (i9 + f) e36 (σ.1.2.2 u.toNat) σ.1.1.toInt (hi142_1.1.oth hok ht hu9 (by omega) (by omega)) hgu (by first | assumption | omega) hu9 (by first | assumption | omega) hke) (cwV 2 hts gX5_mend_X5_corrected rfl rfl rfl hyX5_corrected ⟨Nat.le_of_ble_eq_true rfl, Nat.le_of_ble_eq_true rfl⟩) hK hM hM.1 rfl rfl hl.1 rfl (Nat.le_of_ble_eq_true rfl) dX5_mend_186 ⟨Nat.zero_le _, Nat.zero_le _⟩ (fun z37 e37 => ?_)
                      have e37 : z37.toInt = cordZ (σ.1.2.2 u.toNat) (i9 + f) := e37
                      refine lv_iload hx hb dX5_mend_189 (lv_at hl 7 rfl) ?_
                      refine z_iadd hx hb e37 e23 dX5_mend_191 (by omega) (fun z38 e38 => ?_)
                      refine lv_iload hx hb dX5_mend_192 (lv_at hl 8 rfl) ?_
                      refine lv_iload hx hb dX5_mend_194 (lv_at hl 7 rfl) ?_
                      refine z_isub hx hb e27 e23 dX5_mend_196 (by omega) (fun z39 e39 => ?_)
                      refine lv_iload hx hb dX5_mend_197 (lv_at hl 9 rfl) ?_
                      refine lv_iload hx hb dX5_mend_199 (lv_at hl 5 rfl) ?_
                      refine z_isub hx hb hx9 e16 dX5_mend_201 (by omega) (fun z40 e40 => ?_)
                      refine z_imul hx hb e39 e40 dX5_mend_202 (by omega) (fun z41 e41 => ?_)
                      refine lv_iload hx hb dX5_mend_203 (lv_at hl 6 rfl) ?_
                      refine lv_iload hx hb dX5_mend_205 (lv_at hl 5 rfl) ?_
                      refine z_isub hx hb e19 e16 dX5_mend_207 (by omega) (fun z42 e42 => ?_)
                      refine z_cS (As := [.int z41, .int z42]) (rest := [.int z38, .int z35, .ref (o + 1)]) ⟨hx, hb, hml, hown, hts⟩ (kX5_divide l G z41 (((mdE (σ.1.2.2 t.toNat) (σ.1.2.2 u.toNat) (hbZ (σ.1.2.2 t.toNat) (fgZ (σ.1.2.2 t.toNat) k)) f) - (mdE (σ.1.2.2 t.toNat) (σ.1.2.2 u.toNat) (fgZ (σ.1.2.2 t.toNat) k - 1) f)) * (i9 - ((fgZ (σ.1.2.2 t.toNat) k) - (1 : Int)))) e41 z42 ((hbZ (σ.1.2.2 t.toNat) (fgZ (σ.1.2.2 t.toNat) k)) - ((fgZ (σ.1.2.2 t.toNat) k) - (1 : Int))) e42 (by first | assumption | omega)) (va_cwS 2 hts gX5_mend_X5_divide rfl rfl rfl hyX5_divide ⟨Nat.le_of_ble_eq_true rfl, Nat.le_of_ble_eq_true rfl⟩) hK trivial rfl hl.1 rfl (Nat.le_of_ble_eq_true rfl) dX5_mend_208 ⟨Nat.zero_le _, Nat.zero_le _⟩ (fun z43 e43 => ?_)
                      have e43 : z43.toInt = (((mdE (σ.1.2.2 t.toNat) (σ.1.2.2 u.toNat) (hbZ (σ.1.2.2 t.toNat) (fgZ (σ.1.2.2 t.toNat) k)) f) - (mdE (σ.1.2.2 t.toNat) (σ.1.2.2 u.toNat) (fgZ (σ.1.2.2 t.toNat) k - 1) f)) * (i9 - ((fgZ (σ.1.2.2 t.toNat) k) - (1 : Int)))) / ((hbZ (σ.1.2.2 t.toNat) (fgZ (σ.1.2.2 t.toNat) k)) - ((fgZ (σ.1.2.2 t.toNat) k) - (1 : Int))) := e43
                      refine z_iadd hx hb e38 e43 dX5_mend_211 (by omega) (fun z44 e44 => ?_)
                      refine z_iastMs hx hb hK hM hS (by simp only [iv]; omega) e35 (by omega) dX5_mend_212 (fun H locs hM hsz hq hS => ?_)
                      have hM : MO G H o (d_hM.1, upd (upd d_hM.2.1 (10 + 731 * t + ((369 : Int) + i9)).toNat (1 : Int32)) (10 + 731 * t + ((249 : Int) + i9)).toNat z44, d_hM.2.2.1, d_hM.2.2.2.1, d_hM.2.2.2.2) := hM
                      refine z_iinc (k := 9) hx hb dX5_mend_213 hl rfl hx9 (show (Int32.ofInt 1).toInt = (1 : Int) from rfl) (by omega) (by decide) (fun z45 e45 ls hl => ?_)
                      have hl : lv_has ls 10 [(9, .int z45), (0, .ref o), (1, .int x), (2, .int y), (3, .int xu), (4, .int xf), (5, .int z16), (6, .int z19), (7, .int z23), (8, .int z27)] := hl
                      refine lv_goto (tgt := 142) hx hb dX5_mend_216 (by decide) ?_
                      exact ih142 z45 (i9 + (1 : Int)) e45 (d_hM.1, upd (upd d_hM.2.1 (10 + 731 * t + ((369 : Int) + i9)).toNat (1 : Int32)) (10 + 731 * t + ((249 : Int) + i9)).toNat z44, d_hM.2.2.1, d_hM.2.2.2.1, d_hM.2.2.2.2) (by omega) (by omega) ⟨hi142_1.1.mend1 hso9 ht (by omega) (by omega) hki (by rw [e44]; unfold mdZ; rw [← hsq]), hi142_1.2⟩ _ _ hM hS ls (lv_sub hl [1, 2, 3, 4, 5, 6, 7, 8, 9, 0] rfl)
                exact cut142 (((hbZ (σ.1.2.2 t.toNat) (fgZ (σ.1.2.2 t.toNat) k) - (((fgZ (σ.1.2.2 t.toNat) k) - (1 : Int)) + (1 : Int))).toNat) + 1) z28 (((fgZ (σ.1.2.2 t.toNat) k) - (1 : Int)) + (1 : Int)) e28 (kwS μ, μ.2.1, kwB μ, μ.2.2.2) (Nat.lt_succ_self _) (by omega) ⟨hR.to (by rw [mdP_0 (by omega), gz_id]), rfl, rfl⟩ _ _ hM hS ls (lv_sub hl [5, 6, 7, 8, 9, 4, 3, 2, 1, 0] rfl)
              · refine lv_bipush (v := (-4 : Int32)) hx hb dX5_mend_66 (by decide) ?_
                exact z_riw (v := (-4 : Int32)) hx hb hr hlocks (show (-4 : Int32).toInt = a_mend σ t k u f from (by unfold a_mend; rw [if_neg (by omega)]; exact (itC_f (by assumption)).symm)) ⟨_, hM, (by unfold s_mend; rw [itC_f (fun q => by first | exact absurd q.2 (by assumption) | (have q1 := ckZ_0 q.1; first | omega | exact absurd q1.2.2.1 (by assumption) | exact absurd q1.2.2.2.2.2 (by assumption)))]; exact hRel)⟩ hS dX5_mend_68
          · refine lv_bipush (v := (-2 : Int32)) hx hb dX5_mend_42 (by decide) ?_
            exact z_riw (v := (-2 : Int32)) hx hb hr hlocks (show (-2 : Int32).toInt = a_mend σ t k u f from (by unfold a_mend ckZ; (repeat' split) <;> first | rfl | omega | contradiction | assumption)) ⟨_, hM, (by unfold s_mend; rw [itC_f (fun q => by first | exact absurd q.2 (by assumption) | (have q1 := ckZ_0 q.1; first | omega | exact absurd q1.2.2.1 (by assumption) | exact absurd q1.2.2.2.2.2 (by assumption)))]; exact hRel)⟩ hS dX5_mend_44
      · refine lv_iconst (v := (-1 : Int32)) hx hb dX5_mend_23 (by decide) ?_
        exact z_riw (v := (-1 : Int32)) hx hb hr hlocks (show (-1 : Int32).toInt = a_mend σ t k u f from (by unfold a_mend ckZ; (repeat' split) <;> first | rfl | omega | contradiction | assumption)) ⟨_, hM, (by unfold s_mend; rw [itC_f (fun q => by first | exact absurd q.2 (by assumption) | (have q1 := ckZ_0 q.1; first | omega | exact absurd q1.2.2.1 (by assumption) | exact absurd q1.2.2.2.2.2 (by assumption)))]; exact hRel)⟩ hS dX5_mend_24
