abbrev rmL_areHighsSo : Room := { frames := 5, cells := 0, slots := 0, locals := 111 }
theorem hyL_areHighsSo : yL_areHighsSo.cls ≠ "java/lang/invoke/MethodHandle" ∧ yL_areHighsSo.cls ≠ "java/lang/invoke/VarHandle" ∧ (parseMethodDescriptor yL_areHighsSo.desc).map (fun d => d.parameters.length) = some 2 := by decide +kernel
set_option maxHeartbeats 4000000 in
set_option maxRecDepth 100000 in
theorem kL_areHighsSo (l : Launch) (G : xG) (z : Nat) (σ : FD) (xt : Int32) (t : Int) (e_xt : xt.toInt = t) (hfx : fdX σ) (ht : 0 ≤ t ∧ t < 3) : Met l yL_areHighsSo wsL_areHighsSo rmL_areHighsSo (va_Pc [.ref z, .int xt] (zPre G (fun H => SFP G H z σ))) (zS (fun v => isB v True)) 0 0 zno := by
  refine z_ofW (cc := cL_areHighsSo) (maxL := 7) (ret := some .boolean) (by decide +kernel) rfl (Nat.le_of_ble_eq_true rfl) ?_
  intro p e s m below meth c hx hb hml hr hts hown hlocks hK hP ls hl
  have hF := hP
  have hown : s.vm.findClass RL = some m.cls := hown
  have hl : lv_has ls 7 [(0, .ref z), (1, .int xt)] := hl
  have hok := hfx.1
  have hcb := ac_b hok
  have cut4 : ∀ (n4 : Nat), ∀ (x2 : Int32) (i2 : Int) (_ : x2.toInt = i2) (x3 : Int32) (i3 : Int) (_ : x3.toInt = i3), (σ.1.1.toInt - i3).toNat < n4 → (1 ≤ i3 ∧ (i3 ≤ σ.1.1.toInt - 1 ∨ i3 = 1)) → (i2 = cntZ (fun j => hiP (σ.1.2.2 t.toNat) (j : Int)) i3.toNat) → ∀ ls : Array Slot, lv_has ls 7 [(0, .ref z), (1, .int xt), (2, .int x2), (3, .int x3)] → W p l e rmL_areHighsSo s m ([.ref z, .int xt] : List Value).toArray below meth c s.heap [] 0 0 (MQ below (zS (fun v => isB v True)) ([.ref z, .int xt] : List Value).toArray s 0 0 zno) (F0 m 4 ls []) := by
    intro n4
    induction n4 with
    | zero =>
      intro x2 i2 hx2 x3 i3 hx3 hmu4 hi4_0 hi4_1 ls hl
      exact absurd hmu4 (Nat.not_lt_zero _)
    | succ n4 ih4 =>
      intro x2 i2 hx2 x3 i3 hx3 hmu4 hi4_0 hi4_1 ls hl
      have hcn := cntZ_b (fun j => hiP (σ.1.2.2 t.toNat) (j : Int)) i3.toNat
      refine lv_iload_n hx hb dL_areHighsSo_4 rfl (lv_at hl 3 rfl) ?_
      refine lv_aload_n hx hb dL_areHighsSo_5 rfl (lv_at hl 0 rfl) ?_
      refine lv_iconst (v := (0 : Int32)) hx hb dL_areHighsSo_6 (by decide) ?_
      refine z_cV (As := [.int (0 : Int32)]) (rest := [.int x3]) ⟨hx, hb, hml, hown, hts⟩ (kX4_count l G z σ (0 : Int32) (0 : Int) kI_0 (by first | assumption | omega)) (cwV 1 hts gL_areHighsSo_X4_count rfl rfl rfl hyX4_count ⟨Nat.le_of_ble_eq_true rfl, Nat.le_of_ble_eq_true rfl⟩) hK hF hF.1 rfl rfl hl.1 rfl (Nat.le_of_ble_eq_true rfl) dL_areHighsSo_7 ⟨Nat.zero_le _, Nat.zero_le _⟩ (fun z1 e1 => ?_)
      have e1 : z1.toInt = a_count σ (0 : Int) := e1
      refine lv_iconst (v := (1 : Int32)) hx hb dL_areHighsSo_10 (by decide) ?_
      refine z_isub hx hb e1 kI_1 dL_areHighsSo_11 (by omega) (fun z2 e2 => ?_)
      refine z_icmp_ge (tgt := 92) hx hb hx3 e2 dL_areHighsSo_12 (by decide) (fun c_3 => ?_) (fun c_3 => ?_)
      · have hge := hg_end hfx ht (i := i3) (by omega)
        rw [← hi4_1] at hge
        refine lv_aload_n hx hb dL_areHighsSo_92 rfl (lv_at hl 0 rfl) ?_
        refine lv_iload_n hx hb dL_areHighsSo_93 rfl (lv_at hl 1 rfl) ?_
        refine lv_iload_n hx hb dL_areHighsSo_94 rfl (lv_at hl 2 rfl) ?_
        refine z_cV (As := [.int xt, .int x2]) (rest := []) ⟨hx, hb, hml, hown, hts⟩ (kX4_high l G z σ xt t e_xt x2 i2 hx2 (by first | assumption | omega)) (cwV 2 hts gL_areHighsSo_X4_high rfl rfl rfl hyX4_high ⟨Nat.le_of_ble_eq_true rfl, Nat.le_of_ble_eq_true rfl⟩) hK hF hF.1 rfl rfl hl.1 rfl (Nat.le_of_ble_eq_true rfl) dL_areHighsSo_95 ⟨Nat.zero_le _, Nat.zero_le _⟩ (fun z4 e4 => ?_)
        have e4 : z4.toInt = a_high σ t i2 := e4
        refine lv_bipush (v := (-5 : Int32)) hx hb dL_areHighsSo_98 (by decide) ?_
        refine z_icmp_ne (tgt := 107) hx hb e4 kI_m5 dL_areHighsSo_100 (by decide) (fun c_5 => ?_) (fun c_5 => ?_)
        · omega
        · refine lv_iconst (v := (1 : Int32)) hx hb dL_areHighsSo_103 (by decide) ?_
          refine lv_goto (tgt := 108) hx hb dL_areHighsSo_104 (by decide) ?_
          exact z_rb (v := (1 : Int32)) hx hb hr hlocks rfl (isB.t rfl trivial) dL_areHighsSo_108
      · have hii := hi_iff hfx ht (h := i3) (by omega)
        have hv0 := va_b hfx ht (h := i3 - 1) (by omega)
        have hv1 := va_b hfx ht (h := i3) (by omega)
        have hv2 := va_b hfx ht (h := i3 + 1) (by omega)
        refine lv_aload_n hx hb dL_areHighsSo_15 rfl (lv_at hl 0 rfl) ?_
        refine lv_iload_n hx hb dL_areHighsSo_16 rfl (lv_at hl 1 rfl) ?_
        refine lv_iload_n hx hb dL_areHighsSo_17 rfl (lv_at hl 3 rfl) ?_
        refine lv_iconst (v := (1 : Int32)) hx hb dL_areHighsSo_18 (by decide) ?_
        refine z_isub hx hb hx3 kI_1 dL_areHighsSo_19 (by omega) (fun z6 e6 => ?_)
        refine z_cS (As := [.ref z, .int xt, .int z6]) (rest := []) ⟨hx, hb, hml, hown, hts⟩ (kL_value l G z σ xt t e_xt z6 (i3 - (1 : Int)) e6 (by first | assumption | omega)) (va_cwS 3 hts gL_areHighsSo_L_value rfl rfl rfl hyL_value ⟨Nat.le_of_ble_eq_true rfl, Nat.le_of_ble_eq_true rfl⟩) hK hF rfl hl.1 rfl (Nat.le_of_ble_eq_true rfl) dL_areHighsSo_20 ⟨Nat.zero_le _, Nat.zero_le _⟩ (fun z7 e7 => ?_)
        have e7 : z7.toInt = valA σ t (i3 - (1 : Int)) := e7
        refine lv_istore hx hb dL_areHighsSo_23 hl (by decide) rfl (fun ls hl => ?_)
        have hl : lv_has ls 7 [(4, .int z7), (0, .ref z), (1, .int xt), (2, .int x2), (3, .int x3)] := hl
        refine lv_aload_n hx hb dL_areHighsSo_25 rfl (lv_at hl 1 rfl) ?_
        refine lv_iload_n hx hb dL_areHighsSo_26 rfl (lv_at hl 2 rfl) ?_
        refine lv_iload_n hx hb dL_areHighsSo_27 rfl (lv_at hl 4 rfl) ?_
        refine z_cS (As := [.ref z, .int xt, .int x3]) (rest := []) ⟨hx, hb, hml, hown, hts⟩ (kL_value l G z σ xt t e_xt x3 i3 hx3 (by first | assumption | omega)) (va_cwS 3 hts gL_areHighsSo_L_value rfl rfl rfl hyL_value ⟨Nat.le_of_ble_eq_true rfl, Nat.le_of_ble_eq_true rfl⟩) hK hF rfl hl.1 rfl (Nat.le_of_ble_eq_true rfl) dL_areHighsSo_28 ⟨Nat.zero_le _, Nat.zero_le _⟩ (fun z8 e8 => ?_)
        have e8 : z8.toInt = valA σ t i3 := e8
        refine lv_istore hx hb dL_areHighsSo_31 hl (by decide) rfl (fun ls hl => ?_)
        have hl : lv_has ls 7 [(5, .int z8), (4, .int z7), (0, .ref z), (1, .int xt), (2, .int x2), (3, .int x3)] := hl
        refine lv_aload_n hx hb dL_areHighsSo_33 rfl (lv_at hl 2 rfl) ?_
        refine lv_iload_n hx hb dL_areHighsSo_34 rfl (lv_at hl 3 rfl) ?_
        refine lv_iload_n hx hb dL_areHighsSo_35 rfl (lv_at hl 5 rfl) ?_
        refine lv_iconst (v := (1 : Int32)) hx hb dL_areHighsSo_36 (by decide) ?_
        refine z_iadd hx hb hx3 kI_1 dL_areHighsSo_37 (by omega) (fun z9 e9 => ?_)
        refine z_cS (As := [.ref z, .int xt, .int z9]) (rest := []) ⟨hx, hb, hml, hown, hts⟩ (kL_value l G z σ xt t e_xt z9 (i3 + (1 : Int)) e9 (by first | assumption | omega)) (va_cwS 3 hts gL_areHighsSo_L_value rfl rfl rfl hyL_value ⟨Nat.le_of_ble_eq_true rfl, Nat.le_of_ble_eq_true rfl⟩) hK hF rfl hl.1 rfl (Nat.le_of_ble_eq_true rfl) dL_areHighsSo_38 ⟨Nat.zero_le _, Nat.zero_le _⟩ (fun z10 e10 => ?_)
        have e10 : z10.toInt = valA σ t (i3 + (1 : Int)) := e10
        refine lv_istore hx hb dL_areHighsSo_41 hl (by decide) rfl (fun ls hl => ?_)
        have hl : lv_has ls 7 [(6, .int z10), (5, .int z8), (4, .int z7), (0, .ref z), (1, .int xt), (2, .int x2), (3, .int x3)] := hl
        refine lv_iload hx hb dL_areHighsSo_43 (lv_at hl 2 rfl) ?_
        refine lv_bipush (v := (-5 : Int32)) hx hb dL_areHighsSo_45 (by decide) ?_
        refine z_icmp_eq (tgt := 86) hx hb e7 kI_m5 dL_areHighsSo_47 (by decide) (fun c_11 => ?_) (fun c_11 => ?_)
        · have hcf := hc_f (σ := σ) (t := t) (i := i3) (by omega) (fun q => by have := hii.mp q; omega)
          refine z_iinc (k := 6) hx hb dL_areHighsSo_86 hl rfl hx3 (show (Int32.ofInt 1).toInt = (1 : Int) from rfl) (by omega) (by decide) (fun z12 e12 ls hl => ?_)
          have hl : lv_has ls 7 [(3, .int z12), (6, .int z10), (5, .int z8), (4, .int z7), (0, .ref z), (1, .int xt), (2, .int x2)] := hl
          refine lv_goto (tgt := 4) hx hb dL_areHighsSo_89 (by decide) ?_
          exact ih4 x2 i2 hx2 z12 (i3 + (1 : Int)) e12 (by omega) (by omega) (by first | exact hc_1.symm | (rw [hcf]; omega)) ls (lv_sub hl [4, 5, 6, 0] rfl)
        · refine lv_iload hx hb dL_areHighsSo_50 (lv_at hl 0 rfl) ?_
          refine lv_bipush (v := (-5 : Int32)) hx hb dL_areHighsSo_52 (by decide) ?_
          refine z_icmp_eq (tgt := 86) hx hb e10 kI_m5 dL_areHighsSo_54 (by decide) (fun c_13 => ?_) (fun c_13 => ?_)
          · have hcf := hc_f (σ := σ) (t := t) (i := i3) (by omega) (fun q => by have := hii.mp q; omega)
            refine z_iinc (k := 6) hx hb dL_areHighsSo_86 hl rfl hx3 (show (Int32.ofInt 1).toInt = (1 : Int) from rfl) (by omega) (by decide) (fun z14 e14 ls hl => ?_)
            have hl : lv_has ls 7 [(3, .int z14), (6, .int z10), (5, .int z8), (4, .int z7), (0, .ref z), (1, .int xt), (2, .int x2)] := hl
            refine lv_goto (tgt := 4) hx hb dL_areHighsSo_89 (by decide) ?_
            exact ih4 x2 i2 hx2 z14 (i3 + (1 : Int)) e14 (by omega) (by omega) (by first | exact hc_1.symm | (rw [hcf]; omega)) ls (lv_sub hl [4, 5, 6, 0] rfl)
          · refine lv_iload hx hb dL_areHighsSo_57 (lv_at hl 1 rfl) ?_
            refine lv_iload hx hb dL_areHighsSo_59 (lv_at hl 2 rfl) ?_
            refine z_icmp_le (tgt := 86) hx hb e8 e7 dL_areHighsSo_61 (by decide) (fun c_15 => ?_) (fun c_15 => ?_)
            · have hcf := hc_f (σ := σ) (t := t) (i := i3) (by omega) (fun q => by have := hii.mp q; omega)
              refine z_iinc (k := 6) hx hb dL_areHighsSo_86 hl rfl hx3 (show (Int32.ofInt 1).toInt = (1 : Int) from rfl) (by omega) (by decide) (fun z16 e16 ls hl => ?_)
              have hl : lv_has ls 7 [(3, .int z16), (6, .int z10), (5, .int z8), (4, .int z7), (0, .ref z), (1, .int xt), (2, .int x2)] := hl
              refine lv_goto (tgt := 4) hx hb dL_areHighsSo_89 (by decide) ?_
              exact ih4 x2 i2 hx2 z16 (i3 + (1 : Int)) e16 (by omega) (by omega) (by first | exact hc_1.symm | (rw [hcf]; omega)) ls (lv_sub hl [4, 5, 6, 0] rfl)
            · refine lv_iload hx hb dL_areHighsSo_64 (lv_at hl 1 rfl) ?_
              refine lv_iload hx hb dL_areHighsSo_66 (lv_at hl 0 rfl) ?_
              refine z_icmp_le (tgt := 86) hx hb e8 e10 dL_areHighsSo_68 (by decide) (fun c_17 => ?_) (fun c_17 => ?_)
              · have hcf := hc_f (σ := σ) (t := t) (i := i3) (by omega) (fun q => by have := hii.mp q; omega)
                refine z_iinc (k := 6) hx hb dL_areHighsSo_86 hl rfl hx3 (show (Int32.ofInt 1).toInt = (1 : Int) from rfl) (by omega) (by decide) (fun z18 e18 ls hl => ?_)
                have hl : lv_has ls 7 [(3, .int z18), (6, .int z10), (5, .int z8), (4, .int z7), (0, .ref z), (1, .int xt), (2, .int x2)] := hl
                refine lv_goto (tgt := 4) hx hb dL_areHighsSo_89 (by decide) ?_
                exact ih4 x2 i2 hx2 z18 (i3 + (1 : Int)) e18 (by omega) (by omega) (by first | exact hc_1.symm | (rw [hcf]; omega)) ls (lv_sub hl [4, 5, 6, 0] rfl)
              · have hhi := hii.mpr ⟨by omega, by omega, by omega, by omega⟩
                have hga := hg_at ht (h := i3) (by omega) hhi
                rw [← hi4_1] at hga
                have hcf := hc_t (σ := σ) (t := t) (i := i3) (by omega) hhi
                refine lv_aload_n hx hb dL_areHighsSo_71 rfl (lv_at hl 3 rfl) ?_
                refine lv_iload_n hx hb dL_areHighsSo_72 rfl (lv_at hl 4 rfl) ?_
                refine lv_iload_n hx hb dL_areHighsSo_73 rfl (lv_at hl 5 rfl) ?_
                refine z_cV (As := [.int xt, .int x2]) (rest := []) ⟨hx, hb, hml, hown, hts⟩ (kX4_high l G z σ xt t e_xt x2 i2 hx2 (by first | assumption | omega)) (cwV 2 hts gL_areHighsSo_X4_high rfl rfl rfl hyX4_high ⟨Nat.le_of_ble_eq_true rfl, Nat.le_of_ble_eq_true rfl⟩) hK hF hF.1 rfl rfl hl.1 rfl (Nat.le_of_ble_eq_true rfl) dL_areHighsSo_74 ⟨Nat.zero_le _, Nat.zero_le _⟩ (fun z19 e19 => ?_)
                have e19 : z19.toInt = a_high σ t i2 := e19
                refine lv_iload_n hx hb dL_areHighsSo_77 rfl (lv_at hl 6 rfl) ?_
                refine z_icmp_eq (tgt := 83) hx hb e19 hx3 dL_areHighsSo_78 (by decide) (fun c_20 => ?_) (fun c_20 => ?_)
                · refine z_iinc (k := 5) hx hb dL_areHighsSo_83 hl rfl hx2 (show (Int32.ofInt 1).toInt = (1 : Int) from rfl) (by omega) (by decide) (fun z21 e21 ls hl => ?_)
                  have hl : lv_has ls 7 [(2, .int z21), (6, .int z10), (5, .int z8), (4, .int z7), (0, .ref z), (1, .int xt), (3, .int x3)] := hl
                  refine z_iinc (k := 6) hx hb dL_areHighsSo_86 hl rfl hx3 (show (Int32.ofInt 1).toInt = (1 : Int) from rfl) (by omega) (by decide) (fun z22 e22 ls hl => ?_)
                  have hl : lv_has ls 7 [(3, .int z22), (2, .int z21), (6, .int z10), (5, .int z8), (4, .int z7), (0, .ref z), (1, .int xt)] := hl
                  refine lv_goto (tgt := 4) hx hb dL_areHighsSo_89 (by decide) ?_
                  exact ih4 z21 (i2 + (1 : Int)) e21 z22 (i3 + (1 : Int)) e22 (by omega) (by omega) (by first | exact hc_1.symm | (rw [hcf]; omega)) ls (lv_sub hl [5, 6, 1, 0] rfl)
                · omega
  refine lv_iconst (v := (0 : Int32)) hx hb dL_areHighsSo_0 (by decide) ?_
  refine lv_istore_n hx hb dL_areHighsSo_1 rfl hl (by decide) rfl (fun ls hl => ?_)
  have hl : lv_has ls 7 [(2, .int (0 : Int32)), (0, .ref z), (1, .int xt)] := hl
  refine lv_iconst (v := (1 : Int32)) hx hb dL_areHighsSo_2 (by decide) ?_
  refine lv_istore_n hx hb dL_areHighsSo_3 rfl hl (by decide) rfl (fun ls hl => ?_)
  have hl : lv_has ls 7 [(3, .int (1 : Int32)), (2, .int (0 : Int32)), (0, .ref z), (1, .int xt)] := hl
  exact cut4 (((σ.1.1.toInt - (1 : Int)).toNat) + 1) (0 : Int32) (0 : Int) kI_0 (1 : Int32) (1 : Int) kI_1 (Nat.lt_succ_self _) (by omega) (by first | exact hc_1.symm | (rw [hcf]; omega)) ls (lv_sub hl [2, 3, 1, 0] rfl)
