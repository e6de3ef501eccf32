abbrev rmX5_gap : Room := { frames := 5, cells := 0, slots := 0, locals := 112 }
theorem iwX5_gap_5 : ∀ w ∈ wsX50, w ∈ wsX5_gap := fun _ h => List.mem_cons_of_mem _ (List.mem_append_right _ h)
theorem flX5_gap_7 : Cond.fieldLink RX5 7 "SiltedFloatsModel" "s" "[I" ∈ wsX5_gap := by decide +kernel
theorem hyX5_gap : yX5_gap.cls = RX5 ∧ yX5_gap.cls ≠ "java/lang/invoke/MethodHandle" ∧ yX5_gap.cls ≠ "java/lang/invoke/VarHandle" ∧ (parseMethodDescriptor yX5_gap.desc).map (fun d => d.parameters.length) = some 3 := by decide +kernel
set_option maxHeartbeats 1000000 in
set_option maxRecDepth 100000 in
theorem kX5_gap (l : Launch) (G : xG) (o : Nat) (μ : MD) (x : Int32) (t : Int) (e_x : x.toInt = t) (y : Int32) (k : Int) (e_y : y.toInt = k) (xw : Int32) (w : Int) (e_xw : xw.toInt = w) (σ : FD) (hRel : Rel σ μ) (hfd : fdOk σ) : Met l yX5_gap wsX5_gap rmX5_gap (va_Pc [.ref o, .int x, .int y, .int xw] (zPre G (fun H => MO G H o μ))) (zS (fun v => v.toInt = a_gap σ t k w)) 0 0 zno := by
  refine z_ofW (cc := cX5_gap) (maxL := 8) (ret := some .int) (by decide +kernel) rfl (Nat.le_of_ble_eq_true rfl) ?_
  intro p e s m below meth c hx hb hml hr hts hown hlocks hK hP ls hl
  have hM := hP
  have hown : s.vm.findClass RX5 = some m.cls := hown
  have hl : lv_has ls 8 [(0, .ref o), (1, .int x), (2, .int y), (3, .int xw)] := hl
  have hR := hRel.1
  have hok := hfd.1
  have hn0 := hR.1
  have hok1 := hok.1
  have hW := hR.w
  have hwo := hok.2.1
  refine lv_iload_n hx hb dX5_gap_0 rfl (lv_at hl 1 rfl) ?_
  refine z_cS (As := [.int x]) (rest := []) ⟨hx, hb, hml, hown, hts⟩ (kX5_isStation l G x t e_x) (va_cwS 1 hts gX5_gap_X5_isStation rfl rfl rfl hyX5_isStation ⟨Nat.le_of_ble_eq_true rfl, Nat.le_of_ble_eq_true rfl⟩) hK trivial rfl hl.1 rfl (Nat.le_of_ble_eq_true rfl) dX5_gap_1 ⟨Nat.zero_le _, Nat.zero_le _⟩ (fun z1 e1 => ?_)
  have e1 : isB z1 (0 ≤ t ∧ t < 3) := e1
  refine z_ifb_eq (tgt := 16) hx hb e1 dX5_gap_4 (by decide) (fun c_2 => ?_) (fun c_2 => ?_)
  · refine lv_iconst (v := (-1 : Int32)) hx hb dX5_gap_16 (by decide) ?_
    exact z_ri (v := (-1 : Int32)) hx hb hr hlocks (show (-1 : Int32).toInt = a_gap σ t k w from (by unfold a_gap; (repeat' split) <;> first | rfl | omega | contradiction | assumption)) dX5_gap_17
  · have hgo := hok.2.2 t.toNat (by omega)
    have ht : 0 ≤ t ∧ t < 3 := c_2
    refine lv_aload_n hx hb dX5_gap_7 rfl (lv_at hl 0 rfl) ?_
    refine lv_iload_n hx hb dX5_gap_8 rfl (lv_at hl 1 rfl) ?_
    refine lv_iload_n hx hb dX5_gap_9 rfl (lv_at hl 2 rfl) ?_
    refine z_cV (As := [.int x, .int y]) (rest := []) ⟨hx, hb, hml, hown, hts⟩ (kX5_isGap l G o μ x t e_x y k e_y σ.1 (by first | assumption | omega) (by first | assumption | omega) (by first | assumption | omega)) (cwV 2 hts gX5_gap_X5_isGap rfl rfl rfl hyX5_isGap ⟨Nat.le_of_ble_eq_true rfl, Nat.le_of_ble_eq_true rfl⟩) hK hM hM.1 rfl rfl hl.1 rfl (Nat.le_of_ble_eq_true rfl) dX5_gap_10 ⟨Nat.zero_le _, Nat.zero_le _⟩ (fun z3 e3 => ?_)
    have e3 : isB z3 (fgZ (σ.1.2.2 t.toNat) k ≠ -1) := e3
    refine z_ifb_ne (tgt := 18) hx hb e3 dX5_gap_13 (by decide) (fun c_4 => ?_) (fun c_4 => ?_)
    · have hgp : fgZ (σ.1.2.2 t.toNat) k ≠ -1 := c_4
      have hgb := gp_b hgo (by omega) hgp
      refine lv_aload_n hx hb dX5_gap_18 rfl (lv_at hl 0 rfl) ?_
      refine lv_iload_n hx hb dX5_gap_19 rfl (lv_at hl 1 rfl) ?_
      refine lv_iload_n hx hb dX5_gap_20 rfl (lv_at hl 2 rfl) ?_
      refine z_cV (As := [.int x, .int y]) (rest := []) ⟨hx, hb, hml, hown, hts⟩ (kX5_beginOf l G o μ x t e_x y k e_y σ.1 (by first | assumption | omega) (by first | assumption | omega) (by first | assumption | omega) (by first | assumption | omega)) (cwV 2 hts gX5_gap_X5_beginOf rfl rfl rfl hyX5_beginOf ⟨Nat.le_of_ble_eq_true rfl, Nat.le_of_ble_eq_true rfl⟩) hK hM hM.1 rfl rfl hl.1 rfl (Nat.le_of_ble_eq_true rfl) dX5_gap_21 ⟨Nat.zero_le _, Nat.zero_le _⟩ (fun z5 e5 => ?_)
      have e5 : z5.toInt = fgZ (σ.1.2.2 t.toNat) k := e5
      refine lv_istore hx hb dX5_gap_24 hl (by decide) rfl (fun ls hl => ?_)
      have hl : lv_has ls 8 [(4, .int z5), (0, .ref o), (1, .int x), (2, .int y), (3, .int xw)] := hl
      refine lv_aload_n hx hb dX5_gap_26 rfl (lv_at hl 1 rfl) ?_
      refine lv_iload_n hx hb dX5_gap_27 rfl (lv_at hl 2 rfl) ?_
      refine lv_iload hx hb dX5_gap_28 (lv_at hl 0 rfl) ?_
      refine z_cV (As := [.int x, .int z5]) (rest := []) ⟨hx, hb, hml, hown, hts⟩ (kX5_endOf l G o μ x t e_x z5 (fgZ (σ.1.2.2 t.toNat) k) e5 σ.1 (by first | assumption | omega) (by first | assumption | omega) (by first | assumption | omega) (by first | assumption | omega)) (cwV 2 hts gX5_gap_X5_endOf rfl rfl rfl hyX5_endOf ⟨Nat.le_of_ble_eq_true rfl, Nat.le_of_ble_eq_true rfl⟩) hK hM hM.1 rfl rfl hl.1 rfl (Nat.le_of_ble_eq_true rfl) dX5_gap_30 ⟨Nat.zero_le _, Nat.zero_le _⟩ (fun z6 e6 => ?_)
      have e6 : z6.toInt = hbZ (σ.1.2.2 t.toNat) (fgZ (σ.1.2.2 t.toNat) k) - 1 := e6
      refine lv_istore hx hb dX5_gap_33 hl (by decide) rfl (fun ls hl => ?_)
      have hl : lv_has ls 8 [(5, .int z6), (4, .int z5), (0, .ref o), (1, .int x), (2, .int y), (3, .int xw)] := hl
      refine lv_iload_n hx hb dX5_gap_35 rfl (lv_at hl 5 rfl) ?_
      rcases (show w < 0 ∨ 3 < w ∨ w = 0 ∨ w = 1 ∨ w = 2 ∨ w = 3 from by omega) with c_7 | c_7 | c_7 | c_7 | c_7 | c_7
      · refine lv_tableOut (tgt := 132) hx hb dX5_gap_36 (by rw [e_xw]; omega) (by decide) ?_
        refine lv_bipush (v := (-2 : Int32)) hx hb dX5_gap_132 (by decide) ?_
        exact z_ri (v := (-2 : Int32)) hx hb hr hlocks (show (-2 : Int32).toInt = a_gap σ t k w from (by unfold a_gap; rw [if_neg (fun q => q ⟨by omega, hgp⟩)]; exact (gpW_out (by omega)).symm)) dX5_gap_134
      · refine lv_tableOut (tgt := 132) hx hb dX5_gap_36 (by rw [e_xw]; omega) (by decide) ?_
        refine lv_bipush (v := (-2 : Int32)) hx hb dX5_gap_132 (by decide) ?_
        exact z_ri (v := (-2 : Int32)) hx hb hr hlocks (show (-2 : Int32).toInt = a_gap σ t k w from (by unfold a_gap; rw [if_neg (fun q => q ⟨by omega, hgp⟩)]; exact (gpW_out (by omega)).symm)) dX5_gap_134
      · refine lv_tableIn (off := 32) (tgt := 68) hx hb dX5_gap_36 (by rw [e_xw]; omega) (by rw [e_xw]; omega) (by rw [e_xw, c_7]; rfl) (by decide) ?_
        refine lv_iload hx hb dX5_gap_68 (lv_at hl 1 rfl) ?_
        exact z_ri (v := z5) hx hb hr hlocks (show z5.toInt = a_gap σ t k w from (by unfold a_gap; rw [if_neg (fun q => q ⟨by omega, hgp⟩)]; have hw9 : w = 0 := (by omega); subst hw9; exact e5)) dX5_gap_70
      · refine lv_tableIn (off := 35) (tgt := 71) hx hb dX5_gap_36 (by rw [e_xw]; omega) (by rw [e_xw]; omega) (by rw [e_xw, c_7]; rfl) (by decide) ?_
        refine lv_iload hx hb dX5_gap_71 (lv_at hl 0 rfl) ?_
        exact z_ri (v := z6) hx hb hr hlocks (show z6.toInt = a_gap σ t k w from (by unfold a_gap; rw [if_neg (fun q => q ⟨by omega, hgp⟩)]; have hw9 : w = 1 := (by omega); subst hw9; exact e6)) dX5_gap_73
      · refine lv_tableIn (off := 38) (tgt := 74) hx hb dX5_gap_36 (by rw [e_xw]; omega) (by rw [e_xw]; omega) (by rw [e_xw, c_7]; rfl) (by decide) ?_
        refine lv_aload_n hx hb dX5_gap_74 rfl (lv_at hl 2 rfl) ?_
        refine lv_iload_n hx hb dX5_gap_75 rfl (lv_at hl 3 rfl) ?_
        refine lv_iload_n hx hb dX5_gap_76 rfl (lv_at hl 4 rfl) ?_
        refine z_cV (As := [.int x, .int y]) (rest := []) ⟨hx, hb, hml, hown, hts⟩ (kX5_isInner l G o μ x t e_x y k e_y σ.1 (by first | assumption | omega) (by first | assumption | omega) (by first | assumption | omega) (by first | assumption | omega)) (cwV 2 hts gX5_gap_X5_isInner rfl rfl rfl hyX5_isInner ⟨Nat.le_of_ble_eq_true rfl, Nat.le_of_ble_eq_true rfl⟩) hK hM hM.1 rfl rfl hl.1 rfl (Nat.le_of_ble_eq_true rfl) dX5_gap_77 ⟨Nat.zero_le _, Nat.zero_le _⟩ (fun z8 e8 => ?_)
        have e8 : isB z8 (inP (σ.1.2.2 t.toNat) k) := e8
        refine z_ifb_eq (tgt := 87) hx hb e8 dX5_gap_80 (by decide) (fun c_9 => ?_) (fun c_9 => ?_)
        · refine lv_iconst (v := (0 : Int32)) hx hb dX5_gap_87 (by decide) ?_
          exact z_ri (v := (0 : Int32)) hx hb hr hlocks (show (0 : Int32).toInt = a_gap σ t k w from (by unfold a_gap; rw [if_neg (fun q => q ⟨by omega, hgp⟩)]; have hw9 : w = 2 := (by omega); subst hw9; first | exact (if_pos (by assumption)).symm | exact (if_neg (by assumption)).symm)) dX5_gap_88
        · refine lv_iconst (v := (1 : Int32)) hx hb dX5_gap_83 (by decide) ?_
          refine lv_goto (tgt := 88) hx hb dX5_gap_84 (by decide) ?_
          exact z_ri (v := (1 : Int32)) hx hb hr hlocks (show (1 : Int32).toInt = a_gap σ t k w from (by unfold a_gap; rw [if_neg (fun q => q ⟨by omega, hgp⟩)]; have hw9 : w = 2 := (by omega); subst hw9; first | exact (if_pos (by assumption)).symm | exact (if_neg (by assumption)).symm)) dX5_gap_88
      · refine lv_tableIn (off := 53) (tgt := 89) hx hb dX5_gap_36 (by rw [e_xw]; omega) (by rw [e_xw]; omega) (by rw [e_xw, c_7]; rfl) (by decide) ?_
        refine lv_iconst (v := (0 : Int32)) hx hb dX5_gap_89 (by decide) ?_
        refine lv_istore hx hb dX5_gap_90 hl (by decide) rfl (fun ls hl => ?_)
        have hl : lv_has ls 8 [(6, .int (0 : Int32)), (5, .int z6), (4, .int z5), (0, .ref o), (1, .int x), (2, .int y), (3, .int xw)] := hl
        refine lv_iload hx hb dX5_gap_92 (lv_at hl 2 rfl) ?_
        refine lv_istore hx hb dX5_gap_94 hl (by decide) rfl (fun ls hl => ?_)
        have hl : lv_has ls 8 [(7, .int z5), (6, .int (0 : Int32)), (5, .int z6), (4, .int z5), (0, .ref o), (1, .int x), (2, .int y), (3, .int xw)] := hl
        have cut96 : ∀ (n96 : Nat), ∀ (x6 : Int32) (i6 : Int) (_ : x6.toInt = i6) (x7 : Int32) (i7 : Int) (_ : x7.toInt = i7), (hbZ (σ.1.2.2 t.toNat) (fgZ (σ.1.2.2 t.toNat) k) - i7).toNat < n96 → (fgZ (σ.1.2.2 t.toNat) k ≤ i7 ∧ i7 ≤ hbZ (σ.1.2.2 t.toNat) (fgZ (σ.1.2.2 t.toNat) k)) → (i6 = sumZ (fun i => if kindZ (σ.1.2.2 t.toNat) i = 2 then 1 else 0) (fgZ (σ.1.2.2 t.toNat) k) (i7 - fgZ (σ.1.2.2 t.toNat) k).toNat) → (0 ≤ i6 ∧ i6 ≤ i7 - fgZ (σ.1.2.2 t.toNat) k) → ∀ ls : Array Slot, lv_has ls 8 [(0, .ref o), (1, .int x), (2, .int y), (3, .int xw), (4, .int z5), (5, .int z6), (6, .int x6), (7, .int x7)] → W p l e rmX5_gap s m ([.ref o, .int x, .int y, .int xw] : List Value).toArray below meth c s.heap [] 0 0 (MQ below (zS (fun v => v.toInt = a_gap σ t k w)) ([.ref o, .int x, .int y, .int xw] : List Value).toArray s 0 0 zno) (F0 m 96 ls []) := by
          intro n96
          induction n96 with
          | zero =>
            intro x6 i6 hx6 x7 i7 hx7 hmu96 hi96_0 hi96_1 hi96_2 ls hl
            exact absurd hmu96 (Nat.not_lt_zero _)
          | succ n96 ih96 =>
            intro x6 i6 hx6 x7 i7 hx7 hmu96 hi96_0 hi96_1 hi96_2 ls hl
            refine lv_iload hx hb dX5_gap_96 (lv_at hl 7 rfl) ?_
            refine lv_iload hx hb dX5_gap_98 (lv_at hl 5 rfl) ?_
            refine z_icmp_gt (tgt := 129) hx hb hx7 e6 dX5_gap_100 (by decide) (fun c_10 => ?_) (fun c_10 => ?_)
            · refine lv_iload hx hb dX5_gap_129 (lv_at hl 6 rfl) ?_
              exact z_ri (v := x6) hx hb hr hlocks (show x6.toInt = a_gap σ t k w from (by unfold a_gap; rw [if_neg (fun q => q ⟨by omega, hgp⟩)]; have hw9 : w = 3 := (by omega); subst hw9; rw [hx6, hi96_1, show i7 = hbZ (σ.1.2.2 t.toNat) (fgZ (σ.1.2.2 t.toNat) k) by omega]; rfl)) dX5_gap_131
            · have hm9 := (hR.rd ht (i := i7) (by omega)).2.1
              refine lv_iload hx hb dX5_gap_103 (lv_at hl 6 rfl) ?_
              refine lv_aload_n hx hb dX5_gap_105 rfl (lv_at hl 0 rfl) ?_
              refine z_get hx hb hts iwX5_gap_5 hown hK hM.1 rfl 0 (by decide) flX5_gap_7 rfl (v := .ref (o + 1)) rfl dX5_gap_106 ?_
              refine lv_iload_n hx hb dX5_gap_109 rfl (lv_at hl 1 rfl) ?_
              refine lv_sipush (v := (369 : Int32)) hx hb dX5_gap_110 (by decide) ?_
              refine lv_iload hx hb dX5_gap_113 (lv_at hl 7 rfl) ?_
              refine z_iadd hx hb kI_369 hx7 dX5_gap_115 (by omega) (fun z11 e11 => ?_)
              refine z_cS (As := [.int x, .int z11]) (rest := [.ref (o + 1), .int x6]) ⟨hx, hb, hml, hown, hts⟩ (kX5_of l G x t e_x z11 ((369 : Int) + i7) e11 (by first | assumption | omega)) (va_cwS 2 hts gX5_gap_X5_of rfl rfl rfl hyX5_of ⟨Nat.le_of_ble_eq_true rfl, Nat.le_of_ble_eq_true rfl⟩) hK trivial rfl hl.1 rfl (Nat.le_of_ble_eq_true rfl) dX5_gap_116 ⟨Nat.zero_le _, Nat.zero_le _⟩ (fun z12 e12 => ?_)
              have e12 : z12.toInt = 10 + 731 * t + ((369 : Int) + i7) := e12
              refine z_iald (f := μ.2.1) hx hb hK 0 hM.2.1 rfl e12 (by omega) dX5_gap_119 ?_
              have hcl13 : (μ.2.1 (10 + 731 * t + ((369 : Int) + i7)).toNat).toInt = (if kindZ (σ.1.2.2 t.toNat) i7 = 2 then (1 : Int) else 0) := hm9
              refine z_iadd hx hb hx6 hcl13 dX5_gap_120 (by omega) (fun z14 e14 => ?_)
              refine lv_istore hx hb dX5_gap_121 hl (by decide) rfl (fun ls hl => ?_)
              have hl : lv_has ls 8 [(6, .int z14), (0, .ref o), (1, .int x), (2, .int y), (3, .int xw), (4, .int z5), (5, .int z6), (7, .int x7)] := hl
              refine z_iinc (k := 7) hx hb dX5_gap_123 hl rfl hx7 (show (Int32.ofInt 1).toInt = (1 : Int) from rfl) (by omega) (by decide) (fun z15 e15 ls hl => ?_)
              have hl : lv_has ls 8 [(7, .int z15), (6, .int z14), (0, .ref o), (1, .int x), (2, .int y), (3, .int xw), (4, .int z5), (5, .int z6)] := hl
              refine lv_goto (tgt := 96) hx hb dX5_gap_126 (by decide) ?_
              exact ih96 z14 (i6 + (if kindZ (σ.1.2.2 t.toNat) i7 = 2 then (1 : Int) else 0)) e14 z15 (i7 + (1 : Int)) e15 (by omega) (by omega) (by rw [sumZ_s (by omega), ← hi96_1]) (by omega) ls (lv_sub hl [2, 3, 4, 5, 6, 7, 1, 0] rfl)
        exact cut96 (((hbZ (σ.1.2.2 t.toNat) (fgZ (σ.1.2.2 t.toNat) k) - (fgZ (σ.1.2.2 t.toNat) k)).toNat) + 1) (0 : Int32) (0 : Int) kI_0 z5 (fgZ (σ.1.2.2 t.toNat) k) e5 (Nat.lt_succ_self _) (by omega) (by rw [sumZ_0 (by omega)]) (by omega) ls (lv_sub hl [4, 5, 6, 7, 3, 2, 1, 0] rfl)
    · refine lv_iconst (v := (-1 : Int32)) hx hb dX5_gap_16 (by decide) ?_
      exact z_ri (v := (-1 : Int32)) hx hb hr hlocks (show (-1 : Int32).toInt = a_gap σ t k w from (by unfold a_gap; (repeat' split) <;> first | rfl | omega | contradiction | assumption)) dX5_gap_17

abbrev rmX5_misfit : Room := { frames := 5, cells := 0, slots := 0, locals := 119 }
theorem hyX5_misfit : yX5_misfit.cls = RX5 ∧ yX5_misfit.cls ≠ "java/lang/invoke/MethodHandle" ∧ yX5_misfit.cls ≠ "java/lang/invoke/VarHandle" ∧ (parseMethodDescriptor yX5_misfit.desc).map (fun d => d.parameters.length) = some 4 := by decide +kernel
set_option maxHeartbeats 1000000 in
set_option maxRecDepth 100000 in
theorem kX5_misfit (l : Launch) (G : xG) (o : Nat) (μ : MD) (x : Int32) (t : Int) (e_x : x.toInt = t) (y : Int32) (k : Int) (e_y : y.toInt = k) (xu : Int32) (u : Int) (e_xu : xu.toInt = u) (xf : Int32) (f : Int) (e_xf : xf.toInt = f) (σ : FD) (hRel : Rel σ μ) (hfd : fdOk σ) : Met l yX5_misfit wsX5_misfit rmX5_misfit (va_Pc [.ref o, .int x, .int y, .int xu, .int xf] (zPre G (fun H => MO G H o μ))) (zS (fun v => v.toInt = a_misfit σ t k u f)) 0 0 zno := by
  refine z_ofW (cc := cX5_misfit) (maxL := 5) (ret := some .int) (by decide +kernel) rfl (Nat.le_of_ble_eq_true rfl) ?_
  intro p e s m below meth c hx hb hml hr hts hown hlocks hK hP ls hl
  have hM := hP
  have hown : s.vm.findClass RX5 = some m.cls := hown
  have hl : lv_has ls 5 [(0, .ref o), (1, .int x), (2, .int y), (3, .int xu), (4, .int xf)] := hl
  have hR := hRel.1
  have hok := hfd.1
  have hn0 := hR.1
  have hok1 := hok.1
  have hW := hR.w
  have hwo := hok.2.1
  refine lv_iload_n hx hb dX5_misfit_0 rfl (lv_at hl 1 rfl) ?_
  refine z_cS (As := [.int x]) (rest := []) ⟨hx, hb, hml, hown, hts⟩ (kX5_isStation l G x t e_x) (va_cwS 1 hts gX5_misfit_X5_isStation rfl rfl rfl hyX5_isStation ⟨Nat.le_of_ble_eq_true rfl, Nat.le_of_ble_eq_true rfl⟩) hK trivial rfl hl.1 rfl (Nat.le_of_ble_eq_true rfl) dX5_misfit_1 ⟨Nat.zero_le _, Nat.zero_le _⟩ (fun z1 e1 => ?_)
  have e1 : isB z1 (0 ≤ t ∧ t < 3) := e1
  refine z_ifb_eq (tgt := 23) hx hb e1 dX5_misfit_4 (by decide) (fun c_2 => ?_) (fun c_2 => ?_)
  · refine lv_iconst (v := (-1 : Int32)) hx hb dX5_misfit_23 (by decide) ?_
    exact z_ri (v := (-1 : Int32)) hx hb hr hlocks (show (-1 : Int32).toInt = a_misfit σ t k u f from (by unfold a_misfit ckZ; (repeat' split) <;> first | rfl | omega | contradiction | assumption)) dX5_misfit_24
  · have hgo := hok.2.2 t.toNat (by omega)
    have ht : 0 ≤ t ∧ t < 3 := c_2
    refine lv_aload_n hx hb dX5_misfit_7 rfl (lv_at hl 0 rfl) ?_
    refine lv_iload_n hx hb dX5_misfit_8 rfl (lv_at hl 1 rfl) ?_
    refine lv_iload_n hx hb dX5_misfit_9 rfl (lv_at hl 2 rfl) ?_
    refine z_cV (As := [.int x, .int y]) (rest := []) ⟨hx, hb, hml, hown, hts⟩ (kX5_isGap l G o μ x t e_x y k e_y σ.1 (by first | assumption | omega) (by first | assumption | omega) (by first | assumption | omega)) (cwV 2 hts gX5_misfit_X5_isGap rfl rfl rfl hyX5_isGap ⟨Nat.le_of_ble_eq_true rfl, Nat.le_of_ble_eq_true rfl⟩) hK hM hM.1 rfl rfl hl.1 rfl (Nat.le_of_ble_eq_true rfl) dX5_misfit_10 ⟨Nat.zero_le _, Nat.zero_le _⟩ (fun z3 e3 => ?_)
    have e3 : isB z3 (fgZ (σ.1.2.2 t.toNat) k ≠ -1) := e3
    refine z_ifb_eq (tgt := 23) hx hb e3 dX5_misfit_13 (by decide) (fun c_4 => ?_) (fun c_4 => ?_)
    · refine lv_iconst (v := (-1 : Int32)) hx hb dX5_misfit_23 (by decide) ?_
      exact z_ri (v := (-1 : Int32)) hx hb hr hlocks (show (-1 : Int32).toInt = a_misfit σ t k u f from (by unfold a_misfit ckZ; (repeat' split) <;> first | rfl | omega | contradiction | assumption)) dX5_misfit_24
    · have hgp : fgZ (σ.1.2.2 t.toNat) k ≠ -1 := c_4
      refine lv_iload_n hx hb dX5_misfit_16 rfl (lv_at hl 3 rfl) ?_
      refine z_cS (As := [.int xu]) (rest := []) ⟨hx, hb, hml, hown, hts⟩ (kX5_isStation l G xu u e_xu) (va_cwS 1 hts gX5_misfit_X5_isStation rfl rfl rfl hyX5_isStation ⟨Nat.le_of_ble_eq_true rfl, Nat.le_of_ble_eq_true rfl⟩) hK trivial rfl hl.1 rfl (Nat.le_of_ble_eq_true rfl) dX5_misfit_17 ⟨Nat.zero_le _, Nat.zero_le _⟩ (fun z5 e5 => ?_)
      have e5 : isB z5 (0 ≤ u ∧ u < 3) := e5
      refine z_ifb_ne (tgt := 25) hx hb e5 dX5_misfit_20 (by decide) (fun c_6 => ?_) (fun c_6 => ?_)
      · refine lv_iload hx hb dX5_misfit_25 (lv_at hl 4 rfl) ?_
        refine lv_bipush (v := (-12 : Int32)) hx hb dX5_misfit_27 (by decide) ?_
        refine lv_bipush (v := (12 : Int32)) hx hb dX5_misfit_29 (by decide) ?_
        refine z_cS (As := [.int xf, .int (-12 : Int32), .int (12 : Int32)]) (rest := []) ⟨hx, hb, hml, hown, hts⟩ (kX5_in l G xf f e_xf (-12 : Int32) (-12 : Int) kI_m12 (12 : Int32) (12 : Int) kI_12) (va_cwS 3 hts gX5_misfit_X5_in rfl rfl rfl hyX5_in ⟨Nat.le_of_ble_eq_true rfl, Nat.le_of_ble_eq_true rfl⟩) hK trivial rfl hl.1 rfl (Nat.le_of_ble_eq_true rfl) dX5_misfit_31 ⟨Nat.zero_le _, Nat.zero_le _⟩ (fun z7 e7 => ?_)
        have e7 : isB z7 ((-12 : Int) ≤ f ∧ f ≤ (12 : Int)) := e7
        refine z_ifb_eq (tgt := 42) hx hb e7 dX5_misfit_34 (by decide) (fun c_8 => ?_) (fun c_8 => ?_)
        · refine lv_bipush (v := (-2 : Int32)) hx hb dX5_misfit_42 (by decide) ?_
          exact z_ri (v := (-2 : Int32)) hx hb hr hlocks (show (-2 : Int32).toInt = a_misfit σ t k u f from (by unfold a_misfit ckZ; (repeat' split) <;> first | rfl | omega | contradiction | assumption)) dX5_misfit_44
        · refine lv_iload_n hx hb dX5_misfit_37 rfl (lv_at hl 3 rfl) ?_
          refine lv_iload_n hx hb dX5_misfit_38 rfl (lv_at hl 1 rfl) ?_
          refine z_icmp_ne (tgt := 45) hx hb e_xu e_x dX5_misfit_39 (by decide) (fun c_9 => ?_) (fun c_9 => ?_)
          · refine lv_aload_n hx hb dX5_misfit_45 rfl (lv_at hl 0 rfl) ?_
            refine lv_iload_n hx hb dX5_misfit_46 rfl (lv_at hl 1 rfl) ?_
            refine lv_iload_n hx hb dX5_misfit_47 rfl (lv_at hl 2 rfl) ?_
            refine z_cV (As := [.int x, .int y]) (rest := []) ⟨hx, hb, hml, hown, hts⟩ (kX5_isInner l G o μ x t e_x y k e_y σ.1 (by first | assumption | omega) (by first | assumption | omega) (by first | assumption | omega) (by first | assumption | omega)) (cwV 2 hts gX5_misfit_X5_isInner rfl rfl rfl hyX5_isInner ⟨Nat.le_of_ble_eq_true rfl, Nat.le_of_ble_eq_true rfl⟩) hK hM hM.1 rfl rfl hl.1 rfl (Nat.le_of_ble_eq_true rfl) dX5_misfit_48 ⟨Nat.zero_le _, Nat.zero_le _⟩ (fun z10 e10 => ?_)
            have e10 : isB z10 (inP (σ.1.2.2 t.toNat) k) := e10
            refine z_ifb_ne (tgt := 57) hx hb e10 dX5_misfit_51 (by decide) (fun c_11 => ?_) (fun c_11 => ?_)
            · have hck : ckZ σ t k u f = 0 := by unfold ckZ; rw [if_neg (fun q => q ⟨by omega, by omega, hgp⟩), if_neg (by omega), if_pos c_11]
              refine lv_aload_n hx hb dX5_misfit_57 rfl (lv_at hl 0 rfl) ?_
              refine lv_iload_n hx hb dX5_misfit_58 rfl (lv_at hl 1 rfl) ?_
              refine lv_iload_n hx hb dX5_misfit_59 rfl (lv_at hl 2 rfl) ?_
              refine lv_iload_n hx hb dX5_misfit_60 rfl (lv_at hl 3 rfl) ?_
              refine lv_iload hx hb dX5_misfit_61 (lv_at hl 4 rfl) ?_
              refine z_cV (As := [.int x, .int y, .int xu, .int xf]) (rest := []) ⟨hx, hb, hml, hown, hts⟩ (kX5_canMend l G o μ x t e_x y k e_y xu u e_xu xf f e_xf σ.1 (by first | assumption | omega) (by first | assumption | omega) (by first | assumption | omega) (by first | assumption | omega) (by first | assumption | omega) (by first | assumption | omega)) (cwV 4 hts gX5_misfit_X5_canMend rfl rfl rfl hyX5_canMend ⟨Nat.le_of_ble_eq_true rfl, Nat.le_of_ble_eq_true rfl⟩) hK hM hM.1 rfl rfl hl.1 rfl (Nat.le_of_ble_eq_true rfl) dX5_misfit_63 ⟨Nat.zero_le _, Nat.zero_le _⟩ (fun z12 e12 => ?_)
              have e12 : isB z12 (rdP (σ.1.2.2 u.toNat) (ahZ (σ.1.2.2 t.toNat) k + f) (bhZ (σ.1.2.2 t.toNat) k + f)) := e12
              refine z_ifb_eq (tgt := 81) hx hb e12 dX5_misfit_66 (by decide) (fun c_13 => ?_) (fun c_13 => ?_)
              · refine lv_bipush (v := (-5 : Int32)) hx hb dX5_misfit_81 (by decide) ?_
                exact z_ri (v := (-5 : Int32)) hx hb hr hlocks (show (-5 : Int32).toInt = a_misfit σ t k u f from (by unfold a_misfit; rw [if_neg (by omega)]; exact (itC_f (by assumption)).symm)) dX5_misfit_83
              · refine lv_aload_n hx hb dX5_misfit_69 rfl (lv_at hl 0 rfl) ?_
                refine lv_iload_n hx hb dX5_misfit_70 rfl (lv_at hl 1 rfl) ?_
                refine lv_iload_n hx hb dX5_misfit_71 rfl (lv_at hl 2 rfl) ?_
                refine lv_iload_n hx hb dX5_misfit_72 rfl (lv_at hl 3 rfl) ?_
                refine lv_iload hx hb dX5_misfit_73 (lv_at hl 4 rfl) ?_
                refine z_cV (As := [.int x, .int y, .int xu, .int xf]) (rest := []) ⟨hx, hb, hml, hown, hts⟩ (kX5_misfitOf l G o μ x t e_x y k e_y xu u e_xu xf f e_xf σ.1 (by first | assumption | omega) (by first | assumption | omega) (by first | assumption | omega) (by first | assumption | omega) (by first | assumption | omega) (by first | assumption | omega)) (cwV 4 hts gX5_misfit_X5_misfitOf rfl rfl rfl hyX5_misfitOf ⟨Nat.le_of_ble_eq_true rfl, Nat.le_of_ble_eq_true rfl⟩) hK hM hM.1 rfl rfl hl.1 rfl (Nat.le_of_ble_eq_true rfl) dX5_misfit_75 ⟨Nat.zero_le _, Nat.zero_le _⟩ (fun z14 e14 => ?_)
                have e14 : z14.toInt = mfZ (σ.1.2.2 t.toNat) (σ.1.2.2 u.toNat) (ahZ (σ.1.2.2 t.toNat) k) (bhZ (σ.1.2.2 t.toNat) k) f := e14
                refine lv_goto (tgt := 83) hx hb dX5_misfit_78 (by decide) ?_
                exact z_ri (v := z14) hx hb hr hlocks (show z14.toInt = a_misfit σ t k u f from (by unfold a_misfit; rw [if_neg (by omega)]; exact (e14).trans (itC_t (by assumption)).symm)) dX5_misfit_83
            · refine lv_bipush (v := (-4 : Int32)) hx hb dX5_misfit_54 (by decide) ?_
              exact z_ri (v := (-4 : Int32)) hx hb hr hlocks (show (-4 : Int32).toInt = a_misfit σ t k u f from (by unfold a_misfit ckZ; (repeat' split) <;> first | rfl | omega | contradiction | assumption)) dX5_misfit_56
          · refine lv_bipush (v := (-2 : Int32)) hx hb dX5_misfit_42 (by decide) ?_
            exact z_ri (v := (-2 : Int32)) hx hb hr hlocks (show (-2 : Int32).toInt = a_misfit σ t k u f from (by unfold a_misfit ckZ; (repeat' split) <;> first | rfl | omega | contradiction | assumption)) dX5_misfit_44
      · refine lv_iconst (v := (-1 : Int32)) hx hb dX5_misfit_23 (by decide) ?_
        exact z_ri (v := (-1 : Int32)) hx hb hr hlocks (show (-1 : Int32).toInt = a_misfit σ t k u f from (by unfold a_misfit ckZ; (repeat' split) <;> first | rfl | omega | contradiction | assumption)) dX5_misfit_24

abbrev rmX5_bestPhase : Room := { frames := 5, cells := 0, slots := 0, locals := 119 }
theorem hyX5_bestPhase : yX5_bestPhase.cls = RX5 ∧ yX5_bestPhase.cls ≠ "java/lang/invoke/MethodHandle" ∧ yX5_bestPhase.cls ≠ "java/lang/invoke/VarHandle" ∧ (parseMethodDescriptor yX5_bestPhase.desc).map (fun d => d.parameters.length) = some 3 := by decide +kernel
set_option maxHeartbeats 1000000 in
set_option maxRecDepth 100000 in
theorem kX5_bestPhase (l : Launch) (G : xG) (o : Nat) (μ : MD) (x : Int32) (t : Int) (e_x : x.toInt = t) (y : Int32) (k : Int) (e_y : y.toInt = k) (xu : Int32) (u : Int) (e_xu : xu.toInt = u) (σ : FD) (hRel : Rel σ μ) (hfd : fdOk σ) : Met l yX5_bestPhase wsX5_bestPhase rmX5_bestPhase (va_Pc [.ref o, .int x, .int y, .int xu] (zPre G (fun H => MO G H o μ))) (zS (fun v => v.toInt = a_bestPhase σ t k u)) 0 0 zno := by
  refine z_ofW (cc := cX5_bestPhase) (maxL := 10) (ret := some .int) (by decide +kernel) rfl (Nat.le_of_ble_eq_true rfl) ?_
  intro p e s m below meth c hx hb hml hr hts hown hlocks hK hP ls hl
  have hM := hP
  have hown : s.vm.findClass RX5 = some m.cls := hown
  have hl : lv_has ls 10 [(0, .ref o), (1, .int x), (2, .int y), (3, .int xu)] := hl
  have hR := hRel.1
  have hok := hfd.1
  have hn0 := hR.1
  have hok1 := hok.1
  have hW := hR.w
  have hwo := hok.2.1
  refine lv_iload_n hx hb dX5_bestPhase_0 rfl (lv_at hl 1 rfl) ?_
  refine z_cS (As := [.int x]) (rest := []) ⟨hx, hb, hml, hown, hts⟩ (kX5_isStation l G x t e_x) (va_cwS 1 hts gX5_bestPhase_X5_isStation rfl rfl rfl hyX5_isStation ⟨Nat.le_of_ble_eq_true rfl, Nat.le_of_ble_eq_true rfl⟩) hK trivial rfl hl.1 rfl (Nat.le_of_ble_eq_true rfl) dX5_bestPhase_1 ⟨Nat.zero_le _, Nat.zero_le _⟩ (fun z1 e1 => ?_)
  have e1 : isB z1 (0 ≤ t ∧ t < 3) := e1
  refine z_ifb_eq (tgt := 23) hx hb e1 dX5_bestPhase_4 (by decide) (fun c_2 => ?_) (fun c_2 => ?_)
  · refine lv_iconst (v := (-1 : Int32)) hx hb dX5_bestPhase_23 (by decide) ?_
    exact z_ri (v := (-1 : Int32)) hx hb hr hlocks (show (-1 : Int32).toInt = a_bestPhase σ t k u from (by unfold a_bestPhase ckZ; (repeat' split) <;> first | rfl | omega | contradiction | assumption)) dX5_bestPhase_24
  · have hgo := hok.2.2 t.toNat (by omega)
    have ht : 0 ≤ t ∧ t < 3 := c_2
    refine lv_aload_n hx hb dX5_bestPhase_7 rfl (lv_at hl 0 rfl) ?_
    refine lv_iload_n hx hb dX5_bestPhase_8 rfl (lv_at hl 1 rfl) ?_
    refine lv_iload_n hx hb dX5_bestPhase_9 rfl (lv_at hl 2 rfl) ?_
    refine z_cV (As := [.int x, .int y]) (rest := []) ⟨hx, hb, hml, hown, hts⟩ (kX5_isGap l G o μ x t e_x y k e_y σ.1 (by first | assumption | omega) (by first | assumption | omega) (by first | assumption | omega)) (cwV 2 hts gX5_bestPhase_X5_isGap rfl rfl rfl hyX5_isGap ⟨Nat.le_of_ble_eq_true rfl, Nat.le_of_ble_eq_true rfl⟩) hK hM hM.1 rfl rfl hl.1 rfl (Nat.le_of_ble_eq_true rfl) dX5_bestPhase_10 ⟨Nat.zero_le _, Nat.zero_le _⟩ (fun z3 e3 => ?_)
    have e3 : isB z3 (fgZ (σ.1.2.2 t.toNat) k ≠ -1) := e3
    refine z_ifb_eq (tgt := 23) hx hb e3 dX5_bestPhase_13 (by decide) (fun c_4 => ?_) (fun c_4 => ?_)
    · refine lv_iconst (v := (-1 : Int32)) hx hb dX5_bestPhase_23 (by decide) ?_
      exact z_ri (v := (-1 : Int32)) hx hb hr hlocks (show (-1 : Int32).toInt = a_bestPhase σ t k u from (by unfold a_bestPhase ckZ; (repeat' split) <;> first | rfl | omega | contradiction | assumption)) dX5_bestPhase_24
    · have hgp : fgZ (σ.1.2.2 t.toNat) k ≠ -1 := c_4
      refine lv_iload_n hx hb dX5_bestPhase_16 rfl (lv_at hl 3 rfl) ?_
      refine z_cS (As := [.int xu]) (rest := []) ⟨hx, hb, hml, hown, hts⟩ (kX5_isStation l G xu u e_xu) (va_cwS 1 hts gX5_bestPhase_X5_isStation rfl rfl rfl hyX5_isStation ⟨Nat.le_of_ble_eq_true rfl, Nat.le_of_ble_eq_true rfl⟩) hK trivial rfl hl.1 rfl (Nat.le_of_ble_eq_true rfl) dX5_bestPhase_17 ⟨Nat.zero_le _, Nat.zero_le _⟩ (fun z5 e5 => ?_)
      have e5 : isB z5 (0 ≤ u ∧ u < 3) := e5
      refine z_ifb_ne (tgt := 25) hx hb e5 dX5_bestPhase_20 (by decide) (fun c_6 => ?_) (fun c_6 => ?_)
      · refine lv_iload_n hx hb dX5_bestPhase_25 rfl (lv_at hl 3 rfl) ?_
        refine lv_iload_n hx hb dX5_bestPhase_26 rfl (lv_at hl 1 rfl) ?_
        refine z_icmp_ne (tgt := 33) hx hb e_xu e_x dX5_bestPhase_27 (by decide) (fun c_7 => ?_) (fun c_7 => ?_)
        · refine lv_aload_n hx hb dX5_bestPhase_33 rfl (lv_at hl 0 rfl) ?_
          refine lv_iload_n hx hb dX5_bestPhase_34 rfl (lv_at hl 1 rfl) ?_
          refine lv_iload_n hx hb dX5_bestPhase_35 rfl (lv_at hl 2 rfl) ?_
          refine z_cV (As := [.int x, .int y]) (rest := []) ⟨hx, hb, hml, hown, hts⟩ (kX5_isInner l G o μ x t e_x y k e_y σ.1 (by first | assumption | omega) (by first | assumption | omega) (by first | assumption | omega) (by first | assumption | omega)) (cwV 2 hts gX5_bestPhase_X5_isInner rfl rfl rfl hyX5_isInner ⟨Nat.le_of_ble_eq_true rfl, Nat.le_of_ble_eq_true rfl⟩) hK hM hM.1 rfl rfl hl.1 rfl (Nat.le_of_ble_eq_true rfl) dX5_bestPhase_36 ⟨Nat.zero_le _, Nat.zero_le _⟩ (fun z8 e8 => ?_)
          have e8 : isB z8 (inP (σ.1.2.2 t.toNat) k) := e8
          refine z_ifb_ne (tgt := 45) hx hb e8 dX5_bestPhase_39 (by decide) (fun c_9 => ?_) (fun c_9 => ?_)
          · have hck : ckZ σ t k u 0 = 0 := by unfold ckZ; rw [if_neg (fun q => q ⟨by omega, by omega, hgp⟩), if_neg (by omega), if_pos c_9]
            refine lv_bipush (v := (-5 : Int32)) hx hb dX5_bestPhase_45 (by decide) ?_
            refine lv_istore hx hb dX5_bestPhase_47 hl (by decide) rfl (fun ls hl => ?_)
            have hl : lv_has ls 10 [(4, .int (-5 : Int32)), (0, .ref o), (1, .int x), (2, .int y), (3, .int xu)] := hl
            refine lv_iconst (v := (0 : Int32)) hx hb dX5_bestPhase_49 (by decide) ?_
            refine lv_istore hx hb dX5_bestPhase_50 hl (by decide) rfl (fun ls hl => ?_)
            have hl : lv_has ls 10 [(5, .int (0 : Int32)), (4, .int (-5 : Int32)), (0, .ref o), (1, .int x), (2, .int y), (3, .int xu)] := hl
            refine lv_iconst (v := (0 : Int32)) hx hb dX5_bestPhase_52 (by decide) ?_
            refine lv_istore hx hb dX5_bestPhase_53 hl (by decide) rfl (fun ls hl => ?_)
            have hl : lv_has ls 10 [(6, .int (0 : Int32)), (5, .int (0 : Int32)), (4, .int (-5 : Int32)), (0, .ref o), (1, .int x), (2, .int y), (3, .int xu)] := hl
            have cut55 : ∀ (n55 : Nat), ∀ (x4 : Int32) (i4 : Int) (_ : x4.toInt = i4) (x5 : Int32) (i5 : Int) (_ : x5.toInt = i5) (x6 : Int32) (i6 : Int) (_ : x6.toInt = i6), (25 - i6).toNat < n55 → (0 ≤ i6 ∧ i6 ≤ 25) → (i4 = (bpN (σ.1.2.2 t.toNat) (σ.1.2.2 u.toNat) (ahZ (σ.1.2.2 t.toNat) k) (bhZ (σ.1.2.2 t.toNat) k) i6.toNat).1) → (i5 = (bpN (σ.1.2.2 t.toNat) (σ.1.2.2 u.toNat) (ahZ (σ.1.2.2 t.toNat) k) (bhZ (σ.1.2.2 t.toNat) k) i6.toNat).2) → ∀ ls : Array Slot, lv_has ls 10 [(0, .ref o), (1, .int x), (2, .int y), (3, .int xu), (4, .int x4), (5, .int x5), (6, .int x6)] → W p l e rmX5_bestPhase s m ([.ref o, .int x, .int y, .int xu] : List Value).toArray below meth c s.heap [] 0 0 (MQ below (zS (fun v => v.toInt = a_bestPhase σ t k u)) ([.ref o, .int x, .int y, .int xu] : List Value).toArray s 0 0 zno) (F0 m 55 ls []) := by
              intro n55
              induction n55 with
              | zero =>
                intro x4 i4 hx4 x5 i5 hx5 x6 i6 hx6 hmu55 hi55_0 hi55_1 hi55_2 ls hl
                exact absurd hmu55 (Nat.not_lt_zero _)
              | succ n55 ih55 =>
                intro x4 i4 hx4 x5 i5 hx5 x6 i6 hx6 hmu55 hi55_0 hi55_1 hi55_2 ls hl
                refine lv_iload hx hb dX5_bestPhase_55 (lv_at hl 6 rfl) ?_
                refine lv_bipush (v := (24 : Int32)) hx hb dX5_bestPhase_57 (by decide) ?_
                refine z_icmp_gt (tgt := 167) hx hb hx6 kI_24 dX5_bestPhase_59 (by decide) (fun c_10 => ?_) (fun c_10 => ?_)
                · refine lv_iload hx hb dX5_bestPhase_167 (lv_at hl 4 rfl) ?_
                  exact z_ri (v := x4) hx hb hr hlocks (show x4.toInt = a_bestPhase σ t k u from (by unfold a_bestPhase; rw [if_neg (by omega), hx4, hi55_1, show i6 = 25 by omega]; rfl)) dX5_bestPhase_169
                · have hpb := phZ_b (k := i6) (by omega)
                  refine lv_iload hx hb dX5_bestPhase_62 (lv_at hl 6 rfl) ?_
                  refine lv_iconst (v := (2 : Int32)) hx hb dX5_bestPhase_64 (by decide) ?_
                  refine z_iremp hx hb hx6 kI_2 dX5_bestPhase_65 (by omega) (fun z11 e11 => ?_)
                  refine lv_iconst (v := (1 : Int32)) hx hb dX5_bestPhase_66 (by decide) ?_
                  refine z_icmp_ne (tgt := 80) hx hb e11 kI_1 dX5_bestPhase_67 (by decide) (fun c_12 => ?_) (fun c_12 => ?_)
                  · refine lv_iload hx hb dX5_bestPhase_80 (lv_at hl 6 rfl) ?_
                    refine lv_iconst (v := (2 : Int32)) hx hb dX5_bestPhase_82 (by decide) ?_
                    refine z_idivp hx hb hx6 kI_2 dX5_bestPhase_83 (by omega) (fun z13 e13 => ?_)
                    have e13 : z13.toInt = phZ i6 := by rw [e13]; rw [phZ, if_pos (by omega)]
                    refine lv_istore hx hb dX5_bestPhase_84 hl (by decide) rfl (fun ls hl => ?_)
                    have hl : lv_has ls 10 [(7, .int z13), (0, .ref o), (1, .int x), (2, .int y), (3, .int xu), (4, .int x4), (5, .int x5), (6, .int x6)] := hl
                    refine lv_aload_n hx hb dX5_bestPhase_86 rfl (lv_at hl 1 rfl) ?_
                    refine lv_iload_n hx hb dX5_bestPhase_87 rfl (lv_at hl 2 rfl) ?_
                    refine lv_iload_n hx hb dX5_bestPhase_88 rfl (lv_at hl 3 rfl) ?_
                    refine lv_iload_n hx hb dX5_bestPhase_89 rfl (lv_at hl 4 rfl) ?_
                    refine lv_iload hx hb dX5_bestPhase_90 (lv_at hl 0 rfl) ?_
                    refine z_cV (As := [.int x, .int y, .int xu, .int z13]) (rest := []) ⟨hx, hb, hml, hown, hts⟩ (kX5_canMend l G o μ x t e_x y k e_y xu u e_xu z13 (phZ i6) e13 σ.1 (by first | assumption | omega) (by first | assumption | omega) (by first | assumption | omega) (by first | assumption | omega) (by first | assumption | omega) (by first | assumption | omega)) (cwV 4 hts gX5_bestPhase_X5_canMend rfl rfl rfl hyX5_canMend ⟨Nat.le_of_ble_eq_true rfl, Nat.le_of_ble_eq_true rfl⟩) hK hM hM.1 rfl rfl hl.1 rfl (Nat.le_of_ble_eq_true rfl) dX5_bestPhase_92 ⟨Nat.zero_le _, Nat.zero_le _⟩ (fun z14 e14 => ?_)
                    have e14 : isB z14 (rdP (σ.1.2.2 u.toNat) (ahZ (σ.1.2.2 t.toNat) k + (phZ i6)) (bhZ (σ.1.2.2 t.toNat) k + (phZ i6))) := e14
                    refine z_ifb_eq (tgt := 161) hx hb e14 dX5_bestPhase_95 (by decide) (fun c_15 => ?_) (fun c_15 => ?_)
                    · refine z_iinc (k := 7) hx hb dX5_bestPhase_161 hl rfl hx6 (show (Int32.ofInt 1).toInt = (1 : Int) from rfl) (by omega) (by decide) (fun z16 e16 ls hl => ?_)
                      have hl : lv_has ls 10 [(6, .int z16), (7, .int z13), (0, .ref o), (1, .int x), (2, .int y), (3, .int xu), (4, .int x4), (5, .int x5)] := hl
                      refine lv_goto (tgt := 55) hx hb dX5_bestPhase_164 (by decide) ?_
                      exact ih55 x4 i4 hx4 x5 i5 hx5 z16 (i6 + (1 : Int)) e16 (by omega) (by omega) (by have hb9 := bpN_f (d := σ.1.2.2 t.toNat) (o := σ.1.2.2 u.toNat) (a := ahZ (σ.1.2.2 t.toNat) k) (b := bhZ (σ.1.2.2 t.toNat) k) (i := i6) (by omega) rfl (by assumption); rw [hb9]; exact hi55_1) (by have hb9 := bpN_f (d := σ.1.2.2 t.toNat) (o := σ.1.2.2 u.toNat) (a := ahZ (σ.1.2.2 t.toNat) k) (b := bhZ (σ.1.2.2 t.toNat) k) (i := i6) (by omega) rfl (by assumption); rw [hb9]; exact hi55_2) ls (lv_sub hl [2, 3, 4, 5, 6, 7, 0] rfl)
                    · have hgu := hok.2.2 u.toNat (by omega)
                      have hmb := mfZ_b hgo.small hgu.small (ahZ (σ.1.2.2 t.toNat) k) (bhZ (σ.1.2.2 t.toNat) k) (phZ i6)
                      refine lv_aload_n hx hb dX5_bestPhase_98 rfl (lv_at hl 1 rfl) ?_
                      refine lv_iload_n hx hb dX5_bestPhase_99 rfl (lv_at hl 2 rfl) ?_
                      refine lv_iload_n hx hb dX5_bestPhase_100 rfl (lv_at hl 3 rfl) ?_
                      refine lv_iload_n hx hb dX5_bestPhase_101 rfl (lv_at hl 4 rfl) ?_
                      refine lv_iload hx hb dX5_bestPhase_102 (lv_at hl 0 rfl) ?_
                      refine z_cV (As := [.int x, .int y, .int xu, .int z13]) (rest := []) ⟨hx, hb, hml, hown, hts⟩ (kX5_misfitOf l G o μ x t e_x y k e_y xu u e_xu z13 (phZ i6) e13 σ.1 (by first | assumption | omega) (by first | assumption | omega) (by first | assumption | omega) (by first | assumption | omega) (by first | assumption | omega) (by first | assumption | omega)) (cwV 4 hts gX5_bestPhase_X5_misfitOf rfl rfl rfl hyX5_misfitOf ⟨Nat.le_of_ble_eq_true rfl, Nat.le_of_ble_eq_true rfl⟩) hK hM hM.1 rfl rfl hl.1 rfl (Nat.le_of_ble_eq_true rfl) dX5_bestPhase_104 ⟨Nat.zero_le _, Nat.zero_le _⟩ (fun z17 e17 => ?_)
                      have e17 : z17.toInt = mfZ (σ.1.2.2 t.toNat) (σ.1.2.2 u.toNat) (ahZ (σ.1.2.2 t.toNat) k) (bhZ (σ.1.2.2 t.toNat) k) (phZ i6) := e17
                      refine lv_istore hx hb dX5_bestPhase_107 hl (by decide) rfl (fun ls hl => ?_)
                      have hl : lv_has ls 10 [(8, .int z17), (7, .int z13), (0, .ref o), (1, .int x), (2, .int y), (3, .int xu), (4, .int x4), (5, .int x5), (6, .int x6)] := hl
                      refine lv_iload hx hb dX5_bestPhase_109 (lv_at hl 6 rfl) ?_
                      refine lv_bipush (v := (-5 : Int32)) hx hb dX5_bestPhase_111 (by decide) ?_
                      refine z_icmp_eq (tgt := 123) hx hb hx4 kI_m5 dX5_bestPhase_113 (by decide) (fun c_18 => ?_) (fun c_18 => ?_)
                      · refine lv_iconst (v := (1 : Int32)) hx hb dX5_bestPhase_123 (by decide) ?_
                        refine lv_goto (tgt := 128) hx hb dX5_bestPhase_124 (by decide) ?_
                        refine lv_istore hx hb dX5_bestPhase_128 hl (by decide) rfl (fun ls hl => ?_)
                        have hl : lv_has ls 10 [(9, .int (1 : Int32)), (8, .int z17), (7, .int z13), (0, .ref o), (1, .int x), (2, .int y), (3, .int xu), (4, .int x4), (5, .int x5), (6, .int x6)] := hl
                        refine lv_iload hx hb dX5_bestPhase_130 (lv_at hl 0 rfl) ?_
                        refine z_if_eq (tgt := 143) hx hb kI_1 dX5_bestPhase_132 (by decide) (fun c_19 => ?_) (fun c_19 => ?_)
                        · omega
                        · refine lv_iload hx hb dX5_bestPhase_135 (lv_at hl 2 rfl) ?_
                          refine lv_bipush (v := (100 : Int32)) hx hb dX5_bestPhase_137 (by decide) ?_
                          refine z_iadd hx hb e13 kI_100 dX5_bestPhase_139 (by omega) (fun z20 e20 => ?_)
                          refine lv_goto (tgt := 145) hx hb dX5_bestPhase_140 (by decide) ?_
                          refine lv_istore hx hb dX5_bestPhase_145 hl (by decide) rfl (fun ls hl => ?_)
                          have hl : lv_has ls 10 [(4, .int z20), (9, .int (1 : Int32)), (8, .int z17), (7, .int z13), (0, .ref o), (1, .int x), (2, .int y), (3, .int xu), (5, .int x5), (6, .int x6)] := hl
                          refine lv_iload hx hb dX5_bestPhase_147 (lv_at hl 1 rfl) ?_
                          refine z_if_eq (tgt := 157) hx hb kI_1 dX5_bestPhase_149 (by decide) (fun c_21 => ?_) (fun c_21 => ?_)
                          · omega
                          · refine lv_iload hx hb dX5_bestPhase_152 (lv_at hl 2 rfl) ?_
                            refine lv_goto (tgt := 159) hx hb dX5_bestPhase_154 (by decide) ?_
                            refine lv_istore hx hb dX5_bestPhase_159 hl (by decide) rfl (fun ls hl => ?_)
                            have hl : lv_has ls 10 [(5, .int z17), (4, .int z20), (9, .int (1 : Int32)), (8, .int z17), (7, .int z13), (0, .ref o), (1, .int x), (2, .int y), (3, .int xu), (6, .int x6)] := hl
                            refine z_iinc (k := 9) hx hb dX5_bestPhase_161 hl rfl hx6 (show (Int32.ofInt 1).toInt = (1 : Int) from rfl) (by omega) (by decide) (fun z22 e22 ls hl => ?_)
                            have hl : lv_has ls 10 [(6, .int z22), (5, .int z17), (4, .int z20), (9, .int (1 : Int32)), (8, .int z17), (7, .int z13), (0, .ref o), (1, .int x), (2, .int y), (3, .int xu)] := hl
                            refine lv_goto (tgt := 55) hx hb dX5_bestPhase_164 (by decide) ?_
                            exact ih55 z20 ((phZ i6) + (100 : Int)) e20 z17 (mfZ (σ.1.2.2 t.toNat) (σ.1.2.2 u.toNat) (ahZ (σ.1.2.2 t.toNat) k) (bhZ (σ.1.2.2 t.toNat) k) (phZ i6)) e17 z22 (i6 + (1 : Int)) e22 (by omega) (by omega) (by have hb9 := bpN_t (d := σ.1.2.2 t.toNat) (o := σ.1.2.2 u.toNat) (a := ahZ (σ.1.2.2 t.toNat) k) (b := bhZ (σ.1.2.2 t.toNat) k) (i := i6) (by omega) rfl (by assumption) rfl (Or.inl (by omega)); exact congrArg Prod.fst hb9.symm) (by have hb9 := bpN_t (d := σ.1.2.2 t.toNat) (o := σ.1.2.2 u.toNat) (a := ahZ (σ.1.2.2 t.toNat) k) (b := bhZ (σ.1.2.2 t.toNat) k) (i := i6) (by omega) rfl (by assumption) rfl (Or.inl (by omega)); exact congrArg Prod.snd hb9.symm) ls (lv_sub hl [6, 7, 8, 9, 2, 1, 0] rfl)
                      · refine lv_iload hx hb dX5_bestPhase_116 (lv_at hl 0 rfl) ?_
                        refine lv_iload hx hb dX5_bestPhase_118 (lv_at hl 7 rfl) ?_
                        refine z_icmp_ge (tgt := 127) hx hb e17 hx5 dX5_bestPhase_120 (by decide) (fun c_23 => ?_) (fun c_23 => ?_)
                        · refine lv_iconst (v := (0 : Int32)) hx hb dX5_bestPhase_127 (by decide) ?_
                          refine lv_istore hx hb dX5_bestPhase_128 hl (by decide) rfl (fun ls hl => ?_)
                          have hl : lv_has ls 10 [(9, .int (0 : Int32)), (8, .int z17), (7, .int z13), (0, .ref o), (1, .int x), (2, .int y), (3, .int xu), (4, .int x4), (5, .int x5), (6, .int x6)] := hl
                          refine lv_iload hx hb dX5_bestPhase_130 (lv_at hl 0 rfl) ?_
                          refine z_if_eq (tgt := 143) hx hb kI_0 dX5_bestPhase_132 (by decide) (fun c_24 => ?_) (fun c_24 => ?_)
                          · refine lv_iload hx hb dX5_bestPhase_143 (lv_at hl 7 rfl) ?_
                            refine lv_istore hx hb dX5_bestPhase_145 hl (by decide) rfl (fun ls hl => ?_)
                            have hl : lv_has ls 10 [(4, .int x4), (9, .int (0 : Int32)), (8, .int z17), (7, .int z13), (0, .ref o), (1, .int x), (2, .int y), (3, .int xu), (5, .int x5), (6, .int x6)] := hl
                            refine lv_iload hx hb dX5_bestPhase_147 (lv_at hl 1 rfl) ?_
                            refine z_if_eq (tgt := 157) hx hb kI_0 dX5_bestPhase_149 (by decide) (fun c_25 => ?_) (fun c_25 => ?_)
                            · refine lv_iload hx hb dX5_bestPhase_157 (lv_at hl 8 rfl) ?_
                              refine lv_istore hx hb dX5_bestPhase_159 hl (by decide) rfl (fun ls hl => ?_)
                              have hl : lv_has ls 10 [(5, .int x5), (4, .int x4), (9, .int (0 : Int32)), (8, .int z17), (7, .int z13), (0, .ref o), (1, .int x), (2, .int y), (3, .int xu), (6, .int x6)] := hl
                              refine z_iinc (k := 9) hx hb dX5_bestPhase_161 hl rfl hx6 (show (Int32.ofInt 1).toInt = (1 : Int) from rfl) (by omega) (by decide) (fun z26 e26 ls hl => ?_)
                              have hl : lv_has ls 10 [(6, .int z26), (5, .int x5), (4, .int x4), (9, .int (0 : Int32)), (8, .int z17), (7, .int z13), (0, .ref o), (1, .int x), (2, .int y), (3, .int xu)] := hl
                              refine lv_goto (tgt := 55) hx hb dX5_bestPhase_164 (by decide) ?_
                              exact ih55 x4 i4 hx4 x5 i5 hx5 z26 (i6 + (1 : Int)) e26 (by omega) (by omega) (by have hb9 := bpN_n (d := σ.1.2.2 t.toNat) (o := σ.1.2.2 u.toNat) (a := ahZ (σ.1.2.2 t.toNat) k) (b := bhZ (σ.1.2.2 t.toNat) k) (i := i6) (by omega) rfl rfl (by omega) (by omega); rw [hb9]; exact hi55_1) (by have hb9 := bpN_n (d := σ.1.2.2 t.toNat) (o := σ.1.2.2 u.toNat) (a := ahZ (σ.1.2.2 t.toNat) k) (b := bhZ (σ.1.2.2 t.toNat) k) (i := i6) (by omega) rfl rfl (by omega) (by omega); rw [hb9]; exact hi55_2) ls (lv_sub hl [6, 7, 8, 9, 2, 1, 0] rfl)
                            · omega
                          · omega
                        · refine lv_iconst (v := (1 : Int32)) hx hb dX5_bestPhase_123 (by decide) ?_
                          refine lv_goto (tgt := 128) hx hb dX5_bestPhase_124 (by decide) ?_
                          refine lv_istore hx hb dX5_bestPhase_128 hl (by decide) rfl (fun ls hl => ?_)
                          have hl : lv_has ls 10 [(9, .int (1 : Int32)), (8, .int z17), (7, .int z13), (0, .ref o), (1, .int x), (2, .int y), (3, .int xu), (4, .int x4), (5, .int x5), (6, .int x6)] := hl
                          refine lv_iload hx hb dX5_bestPhase_130 (lv_at hl 0 rfl) ?_
                          refine z_if_eq (tgt := 143) hx hb kI_1 dX5_bestPhase_132 (by decide) (fun c_27 => ?_) (fun c_27 => ?_)
                          · omega
                          · refine lv_iload hx hb dX5_bestPhase_135 (lv_at hl 2 rfl) ?_
                            refine lv_bipush (v := (100 : Int32)) hx hb dX5_bestPhase_137 (by decide) ?_
                            refine z_iadd hx hb e13 kI_100 dX5_bestPhase_139 (by omega) (fun z28 e28 => ?_)
                            refine lv_goto (tgt := 145) hx hb dX5_bestPhase_140 (by decide) ?_
                            refine lv_istore hx hb dX5_bestPhase_145 hl (by decide) rfl (fun ls hl => ?_)
                            have hl : lv_has ls 10 [(4, .int z28), (9, .int (1 : Int32)), (8, .int z17), (7, .int z13), (0, .ref o), (1, .int x), (2, .int y), (3, .int xu), (5, .int x5), (6, .int x6)] := hl
                            refine lv_iload hx hb dX5_bestPhase_147 (lv_at hl 1 rfl) ?_
                            refine z_if_eq (tgt := 157) hx hb kI_1 dX5_bestPhase_149 (by decide) (fun c_29 => ?_) (fun c_29 => ?_)
                            · omega
                            · refine lv_iload hx hb dX5_bestPhase_152 (lv_at hl 2 rfl) ?_
                              refine lv_goto (tgt := 159) hx hb dX5_bestPhase_154 (by decide) ?_
                              refine lv_istore hx hb dX5_bestPhase_159 hl (by decide) rfl (fun ls hl => ?_)
                              have hl : lv_has ls 10 [(5, .int z17), (4, .int z28), (9, .int (1 : Int32)), (8, .int z17), (7, .int z13), (0, .ref o), (1, .int x), (2, .int y), (3, .int xu), (6, .int x6)] := hl
                              refine z_iinc (k := 9) hx hb dX5_bestPhase_161 hl rfl hx6 (show (Int32.ofInt 1).toInt = (1 : Int) from rfl) (by omega) (by decide) (fun z30 e30 ls hl => ?_)
                              have hl : lv_has ls 10 [(6, .int z30), (5, .int z17), (4, .int z28), (9, .int (1 : Int32)), (8, .int z17), (7, .int z13), (0, .ref o), (1, .int x), (2, .int y), (3, .int xu)] := hl
                              refine lv_goto (tgt := 55) hx hb dX5_bestPhase_164 (by decide) ?_
                              exact ih55 z28 ((phZ i6) + (100 : Int)) e28 z17 (mfZ (σ.1.2.2 t.toNat) (σ.1.2.2 u.toNat) (ahZ (σ.1.2.2 t.toNat) k) (bhZ (σ.1.2.2 t.toNat) k) (phZ i6)) e17 z30 (i6 + (1 : Int)) e30 (by omega) (by omega) (by have hb9 := bpN_t (d := σ.1.2.2 t.toNat) (o := σ.1.2.2 u.toNat) (a := ahZ (σ.1.2.2 t.toNat) k) (b := bhZ (σ.1.2.2 t.toNat) k) (i := i6) (by omega) rfl (by assumption) rfl (Or.inr (by omega)); exact congrArg Prod.fst hb9.symm) (by have hb9 := bpN_t (d := σ.1.2.2 t.toNat) (o := σ.1.2.2 u.toNat) (a := ahZ (σ.1.2.2 t.toNat) k) (b := bhZ (σ.1.2.2 t.toNat) k) (i := i6) (by omega) rfl (by assumption) rfl (Or.inr (by omega)); exact congrArg Prod.snd hb9.symm) ls (lv_sub hl [6, 7, 8, 9, 2, 1, 0] rfl)
                  · refine lv_iload hx hb dX5_bestPhase_70 (lv_at hl 6 rfl) ?_
                    refine lv_iconst (v := (1 : Int32)) hx hb dX5_bestPhase_72 (by decide) ?_
                    refine z_iadd hx hb hx6 kI_1 dX5_bestPhase_73 (by omega) (fun z31 e31 => ?_)
                    refine z_ineg hx hb e31 dX5_bestPhase_74 (by omega) (fun z32 e32 => ?_)
                    refine lv_iconst (v := (2 : Int32)) hx hb dX5_bestPhase_75 (by decide) ?_
                    refine z_idiv hx hb e32 kI_2 dX5_bestPhase_76 (by omega) (fun z33 e33 => ?_)
                    have e33 : z33.toInt = phZ i6 := by rw [e33]; rw [phZ, if_neg (by omega), Int.neg_tdiv, Int.tdiv_eq_ediv_of_nonneg (by omega)]
                    refine lv_goto (tgt := 84) hx hb dX5_bestPhase_77 (by decide) ?_
                    refine lv_istore hx hb dX5_bestPhase_84 hl (by decide) rfl (fun ls hl => ?_)
                    have hl : lv_has ls 10 [(7, .int z33), (0, .ref o), (1, .int x), (2, .int y), (3, .int xu), (4, .int x4), (5, .int x5), (6, .int x6)] := hl
                    refine lv_aload_n hx hb dX5_bestPhase_86 rfl (lv_at hl 1 rfl) ?_
                    refine lv_iload_n hx hb dX5_bestPhase_87 rfl (lv_at hl 2 rfl) ?_
                    refine lv_iload_n hx hb dX5_bestPhase_88 rfl (lv_at hl 3 rfl) ?_
                    refine lv_iload_n hx hb dX5_bestPhase_89 rfl (lv_at hl 4 rfl) ?_
                    refine lv_iload hx hb dX5_bestPhase_90 (lv_at hl 0 rfl) ?_
                    refine z_cV (As := [.int x, .int y, .int xu, .int z33]) (rest := []) ⟨hx, hb, hml, hown, hts⟩ (kX5_canMend l G o μ x t e_x y k e_y xu u e_xu z33 (phZ i6) e33 σ.1 (by first | assumption | omega) (by first | assumption | omega) (by first | assumption | omega) (by first | assumption | omega) (by first | assumption | omega) (by first | assumption | omega)) (cwV 4 hts gX5_bestPhase_X5_canMend rfl rfl rfl hyX5_canMend ⟨Nat.le_of_ble_eq_true rfl, Nat.le_of_ble_eq_true rfl⟩) hK hM hM.1 rfl rfl hl.1 rfl (Nat.le_of_ble_eq_true rfl) dX5_bestPhase_92 ⟨Nat.zero_le _, Nat.zero_le _⟩ (fun z34 e34 => ?_)
                    have e34 : isB z34 (rdP (σ.1.2.2 u.toNat) (ahZ (σ.1.2.2 t.toNat) k + (phZ i6)) (bhZ (σ.1.2.2 t.toNat) k + (phZ i6))) := e34
                    refine z_ifb_eq (tgt := 161) hx hb e34 dX5_bestPhase_95 (by decide) (fun c_35 => ?_) (fun c_35 => ?_)
                    · refine z_iinc (k := 7) hx hb dX5_bestPhase_161 hl rfl hx6 (show (Int32.ofInt 1).toInt = (1 : Int) from rfl) (by omega) (by decide) (fun z36 e36 ls hl => ?_)
                      have hl : lv_has ls 10 [(6, .int z36), (7, .int z33), (0, .ref o), (1, .int x), (2, .int y), (3, .int xu), (4, .int x4), (5, .int x5)] := hl
                      refine lv_goto (tgt := 55) hx hb dX5_bestPhase_164 (by decide) ?_
                      exact ih55 x4 i4 hx4 x5 i5 hx5 z36 (i6 + (1 : Int)) e36 (by omega) (by omega) (by have hb9 := bpN_f (d := σ.1.2.2 t.toNat) (o := σ.1.2.2 u.toNat) (a := ahZ (σ.1.2.2 t.toNat) k) (b := bhZ (σ.1.2.2 t.toNat) k) (i := i6) (by omega) rfl (by assumption); rw [hb9]; exact hi55_1) (by have hb9 := bpN_f (d := σ.1.2.2 t.toNat) (o := σ.1.2.2 u.toNat) (a := ahZ (σ.1.2.2 t.toNat) k) (b := bhZ (σ.1.2.2 t.toNat) k) (i := i6) (by omega) rfl (by assumption); rw [hb9]; exact hi55_2) ls (lv_sub hl [2, 3, 4, 5, 6, 7, 0] rfl)
                    · have hgu := hok.2.2 u.toNat (by omega)
                      have hmb := mfZ_b hgo.small hgu.small (ahZ (σ.1.2.2 t.toNat) k) (bhZ (σ.1.2.2 t.toNat) k) (phZ i6)
                      refine lv_aload_n hx hb dX5_bestPhase_98 rfl (lv_at hl 1 rfl) ?_
                      refine lv_iload_n hx hb dX5_bestPhase_99 rfl (lv_at hl 2 rfl) ?_
                      refine lv_iload_n hx hb dX5_bestPhase_100 rfl (lv_at hl 3 rfl) ?_
                      refine lv_iload_n hx hb dX5_bestPhase_101 rfl (lv_at hl 4 rfl) ?_
                      refine lv_iload hx hb dX5_bestPhase_102 (lv_at hl 0 rfl) ?_
                      refine z_cV (As := [.int x, .int y, .int xu, .int z33]) (rest := []) ⟨hx, hb, hml, hown, hts⟩ (kX5_misfitOf l G o μ x t e_x y k e_y xu u e_xu z33 (phZ i6) e33 σ.1 (by first | assumption | omega) (by first | assumption | omega) (by first | assumption | omega) (by first | assumption | omega) (by first | assumption | omega) (by first | assumption | omega)) (cwV 4 hts gX5_bestPhase_X5_misfitOf rfl rfl rfl hyX5_misfitOf ⟨Nat.le_of_ble_eq_true rfl, Nat.le_of_ble_eq_true rfl⟩) hK hM hM.1 rfl rfl hl.1 rfl (Nat.le_of_ble_eq_true rfl) dX5_bestPhase_104 ⟨Nat.zero_le _, Nat.zero_le _⟩ (fun z37 e37 => ?_)
                      have e37 : z37.toInt = mfZ (σ.1.2.2 t.toNat) (σ.1.2.2 u.toNat) (ahZ (σ.1.2.2 t.toNat) k) (bhZ (σ.1.2.2 t.toNat) k) (phZ i6) := e37
                      refine lv_istore hx hb dX5_bestPhase_107 hl (by decide) rfl (fun ls hl => ?_)
                      have hl : lv_has ls 10 [(8, .int z37), (7, .int z33), (0, .ref o), (1, .int x), (2, .int y), (3, .int xu), (4, .int x4), (5, .int x5), (6, .int x6)] := hl
                      refine lv_iload hx hb dX5_bestPhase_109 (lv_at hl 6 rfl) ?_
                      refine lv_bipush (v := (-5 : Int32)) hx hb dX5_bestPhase_111 (by decide) ?_
                      refine z_icmp_eq (tgt := 123) hx hb hx4 kI_m5 dX5_bestPhase_113 (by decide) (fun c_38 => ?_) (fun c_38 => ?_)
                      · refine lv_iconst (v := (1 : Int32)) hx hb dX5_bestPhase_123 (by decide) ?_
                        refine lv_goto (tgt := 128) hx hb dX5_bestPhase_124 (by decide) ?_
                        refine lv_istore hx hb dX5_bestPhase_128 hl (by decide) rfl (fun ls hl => ?_)
                        have hl : lv_has ls 10 [(9, .int (1 : Int32)), (8, .int z37), (7, .int z33), (0, .ref o), (1, .int x), (2, .int y), (3, .int xu), (4, .int x4), (5, .int x5), (6, .int x6)] := hl
                        refine lv_iload hx hb dX5_bestPhase_130 (lv_at hl 0 rfl) ?_
                        refine z_if_eq (tgt := 143) hx hb kI_1 dX5_bestPhase_132 (by decide) (fun c_39 => ?_) (fun c_39 => ?_)
                        · omega
                        · refine lv_iload hx hb dX5_bestPhase_135 (lv_at hl 2 rfl) ?_
                          refine lv_bipush (v := (100 : Int32)) hx hb dX5_bestPhase_137 (by decide) ?_
                          refine z_iadd hx hb e33 kI_100 dX5_bestPhase_139 (by omega) (fun z40 e40 => ?_)
                          refine lv_goto (tgt := 145) hx hb dX5_bestPhase_140 (by decide) ?_
                          refine lv_istore hx hb dX5_bestPhase_145 hl (by decide) rfl (fun ls hl => ?_)
                          have hl : lv_has ls 10 [(4, .int z40), (9, .int (1 : Int32)), (8, .int z37), (7, .int z33), (0, .ref o), (1, .int x), (2, .int y), (3, .int xu), (5, .int x5), (6, .int x6)] := hl
                          refine lv_iload hx hb dX5_bestPhase_147 (lv_at hl 1 rfl) ?_
                          refine z_if_eq (tgt := 157) hx hb kI_1 dX5_bestPhase_149 (by decide) (fun c_41 => ?_) (fun c_41 => ?_)
                          · omega
                          · refine lv_iload hx hb dX5_bestPhase_152 (lv_at hl 2 rfl) ?_
                            refine lv_goto (tgt := 159) hx hb dX5_bestPhase_154 (by decide) ?_
                            refine lv_istore hx hb dX5_bestPhase_159 hl (by decide) rfl (fun ls hl => ?_)
                            have hl : lv_has ls 10 [(5, .int z37), (4, .int z40), (9, .int (1 : Int32)), (8, .int z37), (7, .int z33), (0, .ref o), (1, .int x), (2, .int y), (3, .int xu), (6, .int x6)] := hl
                            refine z_iinc (k := 9) hx hb dX5_bestPhase_161 hl rfl hx6 (show (Int32.ofInt 1).toInt = (1 : Int) from rfl) (by omega) (by decide) (fun z42 e42 ls hl => ?_)
                            have hl : lv_has ls 10 [(6, .int z42), (5, .int z37), (4, .int z40), (9, .int (1 : Int32)), (8, .int z37), (7, .int z33), (0, .ref o), (1, .int x), (2, .int y), (3, .int xu)] := hl
                            refine lv_goto (tgt := 55) hx hb dX5_bestPhase_164 (by decide) ?_
                            exact ih55 z40 ((phZ i6) + (100 : Int)) e40 z37 (mfZ (σ.1.2.2 t.toNat) (σ.1.2.2 u.toNat) (ahZ (σ.1.2.2 t.toNat) k) (bhZ (σ.1.2.2 t.toNat) k) (phZ i6)) e37 z42 (i6 + (1 : Int)) e42 (by omega) (by omega) (by have hb9 := bpN_t (d := σ.1.2.2 t.toNat) (o := σ.1.2.2 u.toNat) (a := ahZ (σ.1.2.2 t.toNat) k) (b := bhZ (σ.1.2.2 t.toNat) k) (i := i6) (by omega) rfl (by assumption) rfl (Or.inl (by omega)); exact congrArg Prod.fst hb9.symm) (by have hb9 := bpN_t (d := σ.1.2.2 t.toNat) (o := σ.1.2.2 u.toNat) (a := ahZ (σ.1.2.2 t.toNat) k) (b := bhZ (σ.1.2.2 t.toNat) k) (i := i6) (by omega) rfl (by assumption) rfl (Or.inl (by omega)); exact congrArg Prod.snd hb9.symm) ls (lv_sub hl [6, 7, 8, 9, 2, 1, 0] rfl)
                      · refine lv_iload hx hb dX5_bestPhase_116 (lv_at hl 0 rfl) ?_
                        refine lv_iload hx hb dX5_bestPhase_118 (lv_at hl 7 rfl) ?_
                        refine z_icmp_ge (tgt := 127) hx hb e37 hx5 dX5_bestPhase_120 (by decide) (fun c_43 => ?_) (fun c_43 => ?_)
                        · refine lv_iconst (v := (0 : Int32)) hx hb dX5_bestPhase_127 (by decide) ?_
                          refine lv_istore hx hb dX5_bestPhase_128 hl (by decide) rfl (fun ls hl => ?_)
                          have hl : lv_has ls 10 [(9, .int (0 : Int32)), (8, .int z37), (7, .int z33), (0, .ref o), (1, .int x), (2, .int y), (3, .int xu), (4, .int x4), (5, .int x5), (6, .int x6)] := hl
                          refine lv_iload hx hb dX5_bestPhase_130 (lv_at hl 0 rfl) ?_
                          refine z_if_eq (tgt := 143) hx hb kI_0 dX5_bestPhase_132 (by decide) (fun c_44 => ?_) (fun c_44 => ?_)
                          · refine lv_iload hx hb dX5_bestPhase_143 (lv_at hl 7 rfl) ?_
                            refine lv_istore hx hb dX5_bestPhase_145 hl (by decide) rfl (fun ls hl => ?_)
                            have hl : lv_has ls 10 [(4, .int x4), (9, .int (0 : Int32)), (8, .int z37), (7, .int z33), (0, .ref o), (1, .int x), (2, .int y), (3, .int xu), (5, .int x5), (6, .int x6)] := hl
                            refine lv_iload hx hb dX5_bestPhase_147 (lv_at hl 1 rfl) ?_
                            refine z_if_eq (tgt := 157) hx hb kI_0 dX5_bestPhase_149 (by decide) (fun c_45 => ?_) (fun c_45 => ?_)
                            · refine lv_iload hx hb dX5_bestPhase_157 (lv_at hl 8 rfl) ?_
                              refine lv_istore hx hb dX5_bestPhase_159 hl (by decide) rfl (fun ls hl => ?_)
                              have hl : lv_has ls 10 [(5, .int x5), (4, .int x4), (9, .int (0 : Int32)), (8, .int z37), (7, .int z33), (0, .ref o), (1, .int x), (2, .int y), (3, .int xu), (6, .int x6)] := hl
                              refine z_iinc (k := 9) hx hb dX5_bestPhase_161 hl rfl hx6 (show (Int32.ofInt 1).toInt = (1 : Int) from rfl) (by omega) (by decide) (fun z46 e46 ls hl => ?_)
                              have hl : lv_has ls 10 [(6, .int z46), (5, .int x5), (4, .int x4), (9, .int (0 : Int32)), (8, .int z37), (7, .int z33), (0, .ref o), (1, .int x), (2, .int y), (3, .int xu)] := hl
                              refine lv_goto (tgt := 55) hx hb dX5_bestPhase_164 (by decide) ?_
                              exact ih55 x4 i4 hx4 x5 i5 hx5 z46 (i6 + (1 : Int)) e46 (by omega) (by omega) (by have hb9 := bpN_n (d := σ.1.2.2 t.toNat) (o := σ.1.2.2 u.toNat) (a := ahZ (σ.1.2.2 t.toNat) k) (b := bhZ (σ.1.2.2 t.toNat) k) (i := i6) (by omega) rfl rfl (by omega) (by omega); rw [hb9]; exact hi55_1) (by have hb9 := bpN_n (d := σ.1.2.2 t.toNat) (o := σ.1.2.2 u.toNat) (a := ahZ (σ.1.2.2 t.toNat) k) (b := bhZ (σ.1.2.2 t.toNat) k) (i := i6) (by omega) rfl rfl (by omega) (by omega); rw [hb9]; exact hi55_2) ls (lv_sub hl [6, 7, 8, 9, 2, 1, 0] rfl)
                            · omega
                          · omega
                        · refine lv_iconst (v := (1 : Int32)) hx hb dX5_bestPhase_123 (by decide) ?_
                          refine lv_goto (tgt := 128) hx hb dX5_bestPhase_124 (by decide) ?_
                          refine lv_istore hx hb dX5_bestPhase_128 hl (by decide) rfl (fun ls hl => ?_)
                          have hl : lv_has ls 10 [(9, .int (1 : Int32)), (8, .int z37), (7, .int z33), (0, .ref o), (1, .int x), (2, .int y), (3, .int xu), (4, .int x4), (5, .int x5), (6, .int x6)] := hl
                          refine lv_iload hx hb dX5_bestPhase_130 (lv_at hl 0 rfl) ?_
                          refine z_if_eq (tgt := 143) hx hb kI_1 dX5_bestPhase_132 (by decide) (fun c_47 => ?_) (fun c_47 => ?_)
                          · omega
                          · refine lv_iload hx hb dX5_bestPhase_135 (lv_at hl 2 rfl) ?_
                            refine lv_bipush (v := (100 : Int32)) hx hb dX5_bestPhase_137 (by decide) ?_
                            refine z_iadd hx hb e33 kI_100 dX5_bestPhase_139 (by omega) (fun z48 e48 => ?_)
                            refine lv_goto (tgt := 145) hx hb dX5_bestPhase_140 (by decide) ?_
                            refine lv_istore hx hb dX5_bestPhase_145 hl (by decide) rfl (fun ls hl => ?_)
                            have hl : lv_has ls 10 [(4, .int z48), (9, .int (1 : Int32)), (8, .int z37), (7, .int z33), (0, .ref o), (1, .int x), (2, .int y), (3, .int xu), (5, .int x5), (6, .int x6)] := hl
                            refine lv_iload hx hb dX5_bestPhase_147 (lv_at hl 1 rfl) ?_
                            refine z_if_eq (tgt := 157) hx hb kI_1 dX5_bestPhase_149 (by decide) (fun c_49 => ?_) (fun c_49 => ?_)
                            · omega
                            · refine lv_iload hx hb dX5_bestPhase_152 (lv_at hl 2 rfl) ?_
                              refine lv_goto (tgt := 159) hx hb dX5_bestPhase_154 (by decide) ?_
                              refine lv_istore hx hb dX5_bestPhase_159 hl (by decide) rfl (fun ls hl => ?_)
                              have hl : lv_has ls 10 [(5, .int z37), (4, .int z48), (9, .int (1 : Int32)), (8, .int z37), (7, .int z33), (0, .ref o), (1, .int x), (2, .int y), (3, .int xu), (6, .int x6)] := hl
                              refine z_iinc (k := 9) hx hb dX5_bestPhase_161 hl rfl hx6 (show (Int32.ofInt 1).toInt = (1 : Int) from rfl) (by omega) (by decide) (fun z50 e50 ls hl => ?_)
                              have hl : lv_has ls 10 [(6, .int z50), (5, .int z37), (4, .int z48), (9, .int (1 : Int32)), (8, .int z37), (7, .int z33), (0, .ref o), (1, .int x), (2, .int y), (3, .int xu)] := hl
                              refine lv_goto (tgt := 55) hx hb dX5_bestPhase_164 (by decide) ?_
                              exact ih55 z48 ((phZ i6) + (100 : Int)) e48 z37 (mfZ (σ.1.2.2 t.toNat) (σ.1.2.2 u.toNat) (ahZ (σ.1.2.2 t.toNat) k) (bhZ (σ.1.2.2 t.toNat) k) (phZ i6)) e37 z50 (i6 + (1 : Int)) e50 (by omega) (by omega) (by have hb9 := bpN_t (d := σ.1.2.2 t.toNat) (o := σ.1.2.2 u.toNat) (a := ahZ (σ.1.2.2 t.toNat) k) (b := bhZ (σ.1.2.2 t.toNat) k) (i := i6) (by omega) rfl (by assumption) rfl (Or.inr (by omega)); exact congrArg Prod.fst hb9.symm) (by have hb9 := bpN_t (d := σ.1.2.2 t.toNat) (o := σ.1.2.2 u.toNat) (a := ahZ (σ.1.2.2 t.toNat) k) (b := bhZ (σ.1.2.2 t.toNat) k) (i := i6) (by omega) rfl (by assumption) rfl (Or.inr (by omega)); exact congrArg Prod.snd hb9.symm) ls (lv_sub hl [6, 7, 8, 9, 2, 1, 0] rfl)
            exact cut55 (((25 - (0 : Int)).toNat) + 1) (-5 : Int32) (-5 : Int) kI_m5 (0 : Int32) (0 : Int) kI_0 (0 : Int32) (0 : Int) kI_0 (Nat.lt_succ_self _) (by omega) rfl rfl ls (lv_sub hl [3, 4, 5, 6, 2, 1, 0] rfl)
          · refine lv_bipush (v := (-4 : Int32)) hx hb dX5_bestPhase_42 (by decide) ?_
            exact z_ri (v := (-4 : Int32)) hx hb hr hlocks (show (-4 : Int32).toInt = a_bestPhase σ t k u from (by unfold a_bestPhase ckZ; (repeat' split) <;> first | rfl | omega | contradiction | assumption)) dX5_bestPhase_44
        · refine lv_bipush (v := (-2 : Int32)) hx hb dX5_bestPhase_30 (by decide) ?_
          exact z_ri (v := (-2 : Int32)) hx hb hr hlocks (show (-2 : Int32).toInt = a_bestPhase σ t k u from (by unfold a_bestPhase ckZ; (repeat' split) <;> first | rfl | omega | contradiction | assumption)) dX5_bestPhase_32
      · refine lv_iconst (v := (-1 : Int32)) hx hb dX5_bestPhase_23 (by decide) ?_
        exact z_ri (v := (-1 : Int32)) hx hb hr hlocks (show (-1 : Int32).toInt = a_bestPhase σ t k u from (by unfold a_bestPhase ckZ; (repeat' split) <;> first | rfl | omega | contradiction | assumption)) dX5_bestPhase_24

abbrev rmX5_high : Room := { frames := 4, cells := 0, slots := 0, locals := 90 }
theorem iwX5_high_5 : ∀ w ∈ wsX50, w ∈ wsX5_high := fun _ h => List.mem_cons_of_mem _ (List.mem_append_right _ h)
theorem flX5_high_7 : Cond.fieldLink RX5 7 "SiltedFloatsModel" "s" "[I" ∈ wsX5_high := by decide +kernel
theorem hyX5_high : yX5_high.cls = RX5 ∧ yX5_high.cls ≠ "java/lang/invoke/MethodHandle" ∧ yX5_high.cls ≠ "java/lang/invoke/VarHandle" ∧ (parseMethodDescriptor yX5_high.desc).map (fun d => d.parameters.length) = some 2 := by decide +kernel
set_option maxHeartbeats 1000000 in
set_option maxRecDepth 100000 in
theorem kX5_high (l : Launch) (G : xG) (o : Nat) (μ : MD) (x : Int32) (t : Int) (e_x : x.toInt = t) (y : Int32) (k : Int) (e_y : y.toInt = k) (σ : FD) (hRel : Rel σ μ) (hfd : fdOk σ) : Met l yX5_high wsX5_high rmX5_high (va_Pc [.ref o, .int x, .int y] (zPre G (fun H => MO G H o μ))) (zS (fun v => v.toInt = a_high σ t k)) 0 0 zno := by
  refine z_ofW (cc := cX5_high) (maxL := 6) (ret := some .int) (by decide +kernel) rfl (Nat.le_of_ble_eq_true rfl) ?_
  intro p e s m below meth c hx hb hml hr hts hown hlocks hK hP ls hl
  have hM := hP
  have hown : s.vm.findClass RX5 = some m.cls := hown
  have hl : lv_has ls 6 [(0, .ref o), (1, .int x), (2, .int y)] := hl
  have hR := hRel.1
  have hok := hfd.1
  have hn0 := hR.1
  have hok1 := hok.1
  have hW := hR.w
  have hwo := hok.2.1
  refine lv_iload_n hx hb dX5_high_0 rfl (lv_at hl 1 rfl) ?_
  refine z_cS (As := [.int x]) (rest := []) ⟨hx, hb, hml, hown, hts⟩ (kX5_isStation l G x t e_x) (va_cwS 1 hts gX5_high_X5_isStation rfl rfl rfl hyX5_isStation ⟨Nat.le_of_ble_eq_true rfl, Nat.le_of_ble_eq_true rfl⟩) hK trivial rfl hl.1 rfl (Nat.le_of_ble_eq_true rfl) dX5_high_1 ⟨Nat.zero_le _, Nat.zero_le _⟩ (fun z1 e1 => ?_)
  have e1 : isB z1 (0 ≤ t ∧ t < 3) := e1
  refine z_ifb_ne (tgt := 9) hx hb e1 dX5_high_4 (by decide) (fun c_2 => ?_) (fun c_2 => ?_)
  · have hgo := hok.2.2 t.toNat (by omega)
    have ht : 0 ≤ t ∧ t < 3 := c_2
    refine lv_iload_n hx hb dX5_high_9 rfl (lv_at hl 2 rfl) ?_
    refine z_if_ge (tgt := 16) hx hb e_y dX5_high_10 (by decide) (fun c_3 => ?_) (fun c_3 => ?_)
    · refine lv_iconst (v := (0 : Int32)) hx hb dX5_high_16 (by decide) ?_
      refine lv_istore_n hx hb dX5_high_17 rfl hl (by decide) rfl (fun ls hl => ?_)
      have hl : lv_has ls 6 [(3, .int (0 : Int32)), (0, .ref o), (1, .int x), (2, .int y)] := hl
      refine lv_iconst (v := (1 : Int32)) hx hb dX5_high_18 (by decide) ?_
      refine lv_istore hx hb dX5_high_19 hl (by decide) rfl (fun ls hl => ?_)
      have hl : lv_has ls 6 [(4, .int (1 : Int32)), (3, .int (0 : Int32)), (0, .ref o), (1, .int x), (2, .int y)] := hl
      have cut21 : ∀ (n21 : Nat), ∀ (x3 : Int32) (i3 : Int) (_ : x3.toInt = i3) (x4 : Int32) (i4 : Int) (_ : x4.toInt = i4), (119 - i4).toNat < n21 → (1 ≤ i4 ∧ i4 ≤ 119 ∧ (i4 = 1 ∨ i4 + 1 ≤ σ.1.1.toInt)) → (i3 = cntZ (fun j => hiP (σ.1.2.2 t.toNat) (j : Int)) i4.toNat) → (nthZ (fun j => hiP (σ.1.2.2 t.toNat) (j : Int)) k i4.toNat = -1) → ∀ ls : Array Slot, lv_has ls 6 [(0, .ref o), (1, .int x), (2, .int y), (3, .int x3), (4, .int x4)] → W p l e rmX5_high s m ([.ref o, .int x, .int y] : List Value).toArray below meth c s.heap [] 0 0 (MQ below (zS (fun v => v.toInt = a_high σ t k)) ([.ref o, .int x, .int y] : List Value).toArray s 0 0 zno) (F0 m 21 ls []) := by
        intro n21
        induction n21 with
        | zero =>
          intro x3 i3 hx3 x4 i4 hx4 hmu21 hi21_0 hi21_1 hi21_2 ls hl
          exact absurd hmu21 (Nat.not_lt_zero _)
        | succ n21 ih21 =>
          intro x3 i3 hx3 x4 i4 hx4 hmu21 hi21_0 hi21_1 hi21_2 ls hl
          have hcb := cntZ_b (fun j => hiP (σ.1.2.2 t.toNat) (j : Int)) i4.toNat
          refine lv_iload hx hb dX5_high_21 (lv_at hl 4 rfl) ?_
          refine lv_iconst (v := (1 : Int32)) hx hb dX5_high_23 (by decide) ?_
          refine z_iadd hx hb hx4 kI_1 dX5_high_24 (by omega) (fun z4 e4 => ?_)
          refine lv_aload_n hx hb dX5_high_25 rfl (lv_at hl 0 rfl) ?_
          refine z_get hx hb hts iwX5_high_5 hown hK hM.1 rfl 0 (by decide) flX5_high_7 rfl (v := .ref (o + 1)) rfl dX5_high_26 ?_
          refine lv_iconst (v := (0 : Int32)) hx hb dX5_high_29 (by decide) ?_
          refine z_iald (f := μ.2.1) hx hb hK 0 hM.2.1 rfl kI_0 (by omega) dX5_high_30 ?_
          have hcl5 : (μ.2.1 (0 : Int).toNat).toInt = σ.1.1.toInt := hn0
          refine z_icmp_ge (tgt := 135) hx hb e4 hcl5 dX5_high_31 (by decide) (fun c_6 => ?_) (fun c_6 => ?_)
          · refine lv_bipush (v := (-5 : Int32)) hx hb dX5_high_135 (by decide) ?_
            exact z_ri (v := (-5 : Int32)) hx hb hr hlocks (show (-5 : Int32).toInt = a_high σ t k from (by unfold a_high; rw [if_neg (by omega), if_neg (by omega), if_pos (hgZ_n hgo (by omega) (by omega) hi21_2)]; rfl)) dX5_high_137
          · refine lv_aload_n hx hb dX5_high_34 rfl (lv_at hl 0 rfl) ?_
            refine lv_iload_n hx hb dX5_high_35 rfl (lv_at hl 1 rfl) ?_
            refine lv_iload hx hb dX5_high_36 (lv_at hl 4 rfl) ?_
            refine lv_iconst (v := (1 : Int32)) hx hb dX5_high_38 (by decide) ?_
            refine z_isub hx hb hx4 kI_1 dX5_high_39 (by omega) (fun z7 e7 => ?_)
            refine z_cV (As := [.int x, .int z7]) (rest := []) ⟨hx, hb, hml, hown, hts⟩ (kX5_isThere l G o μ x t e_x z7 (i4 - (1 : Int)) e7 σ.1 (by first | assumption | omega) (by first | assumption | omega) (by first | assumption | omega) (by first | assumption | omega)) (cwV 2 hts gX5_high_X5_isThere rfl rfl rfl hyX5_isThere ⟨Nat.le_of_ble_eq_true rfl, Nat.le_of_ble_eq_true rfl⟩) hK hM hM.1 rfl rfl hl.1 rfl (Nat.le_of_ble_eq_true rfl) dX5_high_40 ⟨Nat.zero_le _, Nat.zero_le _⟩ (fun z8 e8 => ?_)
            have e8 : isB z8 (hvP (σ.1.2.2 t.toNat) (i4 - (1 : Int))) := e8
            refine z_ifb_eq (tgt := 72) hx hb e8 dX5_high_43 (by decide) (fun c_9 => ?_) (fun c_9 => ?_)
            · refine lv_iconst (v := (0 : Int32)) hx hb dX5_high_72 (by decide) ?_
              refine lv_istore hx hb dX5_high_73 hl (by decide) rfl (fun ls hl => ?_)
              have hl : lv_has ls 6 [(5, .int (0 : Int32)), (0, .ref o), (1, .int x), (2, .int y), (3, .int x3), (4, .int x4)] := hl
              refine lv_iload hx hb dX5_high_75 (lv_at hl 0 rfl) ?_
              refine z_if_eq (tgt := 129) hx hb kI_0 dX5_high_77 (by decide) (fun c_10 => ?_) (fun c_10 => ?_)
              · refine z_iinc (k := 5) hx hb dX5_high_129 hl rfl hx4 (show (Int32.ofInt 1).toInt = (1 : Int) from rfl) (by omega) (by decide) (fun z11 e11 ls hl => ?_)
                have hl : lv_has ls 6 [(4, .int z11), (5, .int (0 : Int32)), (0, .ref o), (1, .int x), (2, .int y), (3, .int x3)] := hl
                refine lv_goto (tgt := 21) hx hb dX5_high_132 (by decide) ?_
                exact ih21 x3 i3 hx3 z11 (i4 + (1 : Int)) e11 (by omega) (by omega) (by rw [cntI_f (q := hiP (σ.1.2.2 t.toNat)) (by omega) (fun q => by first | exact absurd q.1 (by assumption) | exact absurd q.2.1 (by assumption) | exact absurd q.2.2.1 (by assumption) | (have := q.2.2.2; omega))]; exact hi21_1) (nthI_step (q := hiP (σ.1.2.2 t.toNat)) (by omega) hi21_2 (fun q9 => (fun q => by first | exact absurd q.1 (by assumption) | exact absurd q.2.1 (by assumption) | exact absurd q.2.2.1 (by assumption) | (have := q.2.2.2; omega)) q9.1)) ls (lv_sub hl [2, 3, 4, 5, 0] rfl)
              · omega
            · refine lv_aload_n hx hb dX5_high_46 rfl (lv_at hl 0 rfl) ?_
              refine lv_iload_n hx hb dX5_high_47 rfl (lv_at hl 1 rfl) ?_
              refine lv_iload hx hb dX5_high_48 (lv_at hl 4 rfl) ?_
              refine z_cV (As := [.int x, .int x4]) (rest := []) ⟨hx, hb, hml, hown, hts⟩ (kX5_isThere l G o μ x t e_x x4 i4 hx4 σ.1 (by first | assumption | omega) (by first | assumption | omega) (by first | assumption | omega) (by first | assumption | omega)) (cwV 2 hts gX5_high_X5_isThere rfl rfl rfl hyX5_isThere ⟨Nat.le_of_ble_eq_true rfl, Nat.le_of_ble_eq_true rfl⟩) hK hM hM.1 rfl rfl hl.1 rfl (Nat.le_of_ble_eq_true rfl) dX5_high_50 ⟨Nat.zero_le _, Nat.zero_le _⟩ (fun z12 e12 => ?_)
              have e12 : isB z12 (hvP (σ.1.2.2 t.toNat) i4) := e12
              refine z_ifb_eq (tgt := 72) hx hb e12 dX5_high_53 (by decide) (fun c_13 => ?_) (fun c_13 => ?_)
              · refine lv_iconst (v := (0 : Int32)) hx hb dX5_high_72 (by decide) ?_
                refine lv_istore hx hb dX5_high_73 hl (by decide) rfl (fun ls hl => ?_)
                have hl : lv_has ls 6 [(5, .int (0 : Int32)), (0, .ref o), (1, .int x), (2, .int y), (3, .int x3), (4, .int x4)] := hl
                refine lv_iload hx hb dX5_high_75 (lv_at hl 0 rfl) ?_
                refine z_if_eq (tgt := 129) hx hb kI_0 dX5_high_77 (by decide) (fun c_14 => ?_) (fun c_14 => ?_)
                · refine z_iinc (k := 5) hx hb dX5_high_129 hl rfl hx4 (show (Int32.ofInt 1).toInt = (1 : Int) from rfl) (by omega) (by decide) (fun z15 e15 ls hl => ?_)
                  have hl : lv_has ls 6 [(4, .int z15), (5, .int (0 : Int32)), (0, .ref o), (1, .int x), (2, .int y), (3, .int x3)] := hl
                  refine lv_goto (tgt := 21) hx hb dX5_high_132 (by decide) ?_
                  exact ih21 x3 i3 hx3 z15 (i4 + (1 : Int)) e15 (by omega) (by omega) (by rw [cntI_f (q := hiP (σ.1.2.2 t.toNat)) (by omega) (fun q => by first | exact absurd q.1 (by assumption) | exact absurd q.2.1 (by assumption) | exact absurd q.2.2.1 (by assumption) | (have := q.2.2.2; omega))]; exact hi21_1) (nthI_step (q := hiP (σ.1.2.2 t.toNat)) (by omega) hi21_2 (fun q9 => (fun q => by first | exact absurd q.1 (by assumption) | exact absurd q.2.1 (by assumption) | exact absurd q.2.2.1 (by assumption) | (have := q.2.2.2; omega)) q9.1)) ls (lv_sub hl [2, 3, 4, 5, 0] rfl)
                · omega
              · refine lv_aload_n hx hb dX5_high_56 rfl (lv_at hl 0 rfl) ?_
                refine lv_iload_n hx hb dX5_high_57 rfl (lv_at hl 1 rfl) ?_
                refine lv_iload hx hb dX5_high_58 (lv_at hl 4 rfl) ?_
                refine lv_iconst (v := (1 : Int32)) hx hb dX5_high_60 (by decide) ?_
                refine z_iadd hx hb hx4 kI_1 dX5_high_61 (by omega) (fun z16 e16 => ?_)
                refine z_cV (As := [.int x, .int z16]) (rest := []) ⟨hx, hb, hml, hown, hts⟩ (kX5_isThere l G o μ x t e_x z16 (i4 + (1 : Int)) e16 σ.1 (by first | assumption | omega) (by first | assumption | omega) (by first | assumption | omega) (by first | assumption | omega)) (cwV 2 hts gX5_high_X5_isThere rfl rfl rfl hyX5_isThere ⟨Nat.le_of_ble_eq_true rfl, Nat.le_of_ble_eq_true rfl⟩) hK hM hM.1 rfl rfl hl.1 rfl (Nat.le_of_ble_eq_true rfl) dX5_high_62 ⟨Nat.zero_le _, Nat.zero_le _⟩ (fun z17 e17 => ?_)
                have e17 : isB z17 (hvP (σ.1.2.2 t.toNat) (i4 + (1 : Int))) := e17
                refine z_ifb_eq (tgt := 72) hx hb e17 dX5_high_65 (by decide) (fun c_18 => ?_) (fun c_18 => ?_)
                · refine lv_iconst (v := (0 : Int32)) hx hb dX5_high_72 (by decide) ?_
                  refine lv_istore hx hb dX5_high_73 hl (by decide) rfl (fun ls hl => ?_)
                  have hl : lv_has ls 6 [(5, .int (0 : Int32)), (0, .ref o), (1, .int x), (2, .int y), (3, .int x3), (4, .int x4)] := hl
                  refine lv_iload hx hb dX5_high_75 (lv_at hl 0 rfl) ?_
                  refine z_if_eq (tgt := 129) hx hb kI_0 dX5_high_77 (by decide) (fun c_19 => ?_) (fun c_19 => ?_)
                  · refine z_iinc (k := 5) hx hb dX5_high_129 hl rfl hx4 (show (Int32.ofInt 1).toInt = (1 : Int) from rfl) (by omega) (by decide) (fun z20 e20 ls hl => ?_)
                    have hl : lv_has ls 6 [(4, .int z20), (5, .int (0 : Int32)), (0, .ref o), (1, .int x), (2, .int y), (3, .int x3)] := hl
                    refine lv_goto (tgt := 21) hx hb dX5_high_132 (by decide) ?_
                    exact ih21 x3 i3 hx3 z20 (i4 + (1 : Int)) e20 (by omega) (by omega) (by rw [cntI_f (q := hiP (σ.1.2.2 t.toNat)) (by omega) (fun q => by first | exact absurd q.1 (by assumption) | exact absurd q.2.1 (by assumption) | exact absurd q.2.2.1 (by assumption) | (have := q.2.2.2; omega))]; exact hi21_1) (nthI_step (q := hiP (σ.1.2.2 t.toNat)) (by omega) hi21_2 (fun q9 => (fun q => by first | exact absurd q.1 (by assumption) | exact absurd q.2.1 (by assumption) | exact absurd q.2.2.1 (by assumption) | (have := q.2.2.2; omega)) q9.1)) ls (lv_sub hl [2, 3, 4, 5, 0] rfl)
                  · omega
                · refine lv_iconst (v := (1 : Int32)) hx hb dX5_high_68 (by decide) ?_
                  refine lv_goto (tgt := 73) hx hb dX5_high_69 (by decide) ?_
                  refine lv_istore hx hb dX5_high_73 hl (by decide) rfl (fun ls hl => ?_)
                  have hl : lv_has ls 6 [(5, .int (1 : Int32)), (0, .ref o), (1, .int x), (2, .int y), (3, .int x3), (4, .int x4)] := hl
                  refine lv_iload hx hb dX5_high_75 (lv_at hl 0 rfl) ?_
                  refine z_if_eq (tgt := 129) hx hb kI_1 dX5_high_77 (by decide) (fun c_21 => ?_) (fun c_21 => ?_)
                  · omega
                  · refine lv_aload_n hx hb dX5_high_80 rfl (lv_at hl 1 rfl) ?_
                    refine lv_iload_n hx hb dX5_high_81 rfl (lv_at hl 2 rfl) ?_
                    refine lv_iload hx hb dX5_high_82 (lv_at hl 5 rfl) ?_
                    refine z_cV (As := [.int x, .int x4]) (rest := []) ⟨hx, hb, hml, hown, hts⟩ (kX5_valueOf l G o μ x t e_x x4 i4 hx4 σ.1 (by first | assumption | omega) (by first | assumption | omega) (by first | assumption | omega) (by first | assumption | omega) (by first | assumption | omega)) (cwV 2 hts gX5_high_X5_valueOf rfl rfl rfl hyX5_valueOf ⟨Nat.le_of_ble_eq_true rfl, Nat.le_of_ble_eq_true rfl⟩) hK hM hM.1 rfl rfl hl.1 rfl (Nat.le_of_ble_eq_true rfl) dX5_high_84 ⟨Nat.zero_le _, Nat.zero_le _⟩ (fun z22 e22 => ?_)
                    have e22 : z22.toInt = valZ (σ.1.2.2 t.toNat) i4 := e22
                    refine lv_aload_n hx hb dX5_high_87 rfl (lv_at hl 1 rfl) ?_
                    refine lv_iload_n hx hb dX5_high_88 rfl (lv_at hl 2 rfl) ?_
                    refine lv_iload hx hb dX5_high_89 (lv_at hl 5 rfl) ?_
                    refine lv_iconst (v := (1 : Int32)) hx hb dX5_high_91 (by decide) ?_
                    refine z_isub hx hb hx4 kI_1 dX5_high_92 (by omega) (fun z23 e23 => ?_)
                    refine z_cV (As := [.int x, .int z23]) (rest := [.int z22]) ⟨hx, hb, hml, hown, hts⟩ (kX5_valueOf l G o μ x t e_x z23 (i4 - (1 : Int)) e23 σ.1 (by first | assumption | omega) (by first | assumption | omega) (by first | assumption | omega) (by first | assumption | omega) (by first | assumption | omega)) (cwV 2 hts gX5_high_X5_valueOf rfl rfl rfl hyX5_valueOf ⟨Nat.le_of_ble_eq_true rfl, Nat.le_of_ble_eq_true rfl⟩) hK hM hM.1 rfl rfl hl.1 rfl (Nat.le_of_ble_eq_true rfl) dX5_high_93 ⟨Nat.zero_le _, Nat.zero_le _⟩ (fun z24 e24 => ?_)
                    have e24 : z24.toInt = valZ (σ.1.2.2 t.toNat) (i4 - (1 : Int)) := e24
                    refine z_icmp_le (tgt := 129) hx hb e22 e24 dX5_high_96 (by decide) (fun c_25 => ?_) (fun c_25 => ?_)
                    · refine z_iinc (k := 5) hx hb dX5_high_129 hl rfl hx4 (show (Int32.ofInt 1).toInt = (1 : Int) from rfl) (by omega) (by decide) (fun z26 e26 ls hl => ?_)
                      have hl : lv_has ls 6 [(4, .int z26), (5, .int (1 : Int32)), (0, .ref o), (1, .int x), (2, .int y), (3, .int x3)] := hl
                      refine lv_goto (tgt := 21) hx hb dX5_high_132 (by decide) ?_
                      exact ih21 x3 i3 hx3 z26 (i4 + (1 : Int)) e26 (by omega) (by omega) (by rw [cntI_f (q := hiP (σ.1.2.2 t.toNat)) (by omega) (fun q => by first | exact absurd q.1 (by assumption) | exact absurd q.2.1 (by assumption) | exact absurd q.2.2.1 (by assumption) | (have := q.2.2.2; omega))]; exact hi21_1) (nthI_step (q := hiP (σ.1.2.2 t.toNat)) (by omega) hi21_2 (fun q9 => (fun q => by first | exact absurd q.1 (by assumption) | exact absurd q.2.1 (by assumption) | exact absurd q.2.2.1 (by assumption) | (have := q.2.2.2; omega)) q9.1)) ls (lv_sub hl [2, 3, 4, 5, 0] rfl)
                    · refine lv_aload_n hx hb dX5_high_99 rfl (lv_at hl 1 rfl) ?_
                      refine lv_iload_n hx hb dX5_high_100 rfl (lv_at hl 2 rfl) ?_
                      refine lv_iload hx hb dX5_high_101 (lv_at hl 5 rfl) ?_
                      refine z_cV (As := [.int x, .int x4]) (rest := []) ⟨hx, hb, hml, hown, hts⟩ (kX5_valueOf l G o μ x t e_x x4 i4 hx4 σ.1 (by first | assumption | omega) (by first | assumption | omega) (by first | assumption | omega) (by first | assumption | omega) (by first | assumption | omega)) (cwV 2 hts gX5_high_X5_valueOf rfl rfl rfl hyX5_valueOf ⟨Nat.le_of_ble_eq_true rfl, Nat.le_of_ble_eq_true rfl⟩) hK hM hM.1 rfl rfl hl.1 rfl (Nat.le_of_ble_eq_true rfl) dX5_high_103 ⟨Nat.zero_le _, Nat.zero_le _⟩ (fun z27 e27 => ?_)
                      have e27 : z27.toInt = valZ (σ.1.2.2 t.toNat) i4 := e27
                      refine lv_aload_n hx hb dX5_high_106 rfl (lv_at hl 1 rfl) ?_
                      refine lv_iload_n hx hb dX5_high_107 rfl (lv_at hl 2 rfl) ?_
                      refine lv_iload hx hb dX5_high_108 (lv_at hl 5 rfl) ?_
                      refine lv_iconst (v := (1 : Int32)) hx hb dX5_high_110 (by decide) ?_
                      refine z_iadd hx hb hx4 kI_1 dX5_high_111 (by omega) (fun z28 e28 => ?_)
                      refine z_cV (As := [.int x, .int z28]) (rest := [.int z27]) ⟨hx, hb, hml, hown, hts⟩ (kX5_valueOf l G o μ x t e_x z28 (i4 + (1 : Int)) e28 σ.1 (by first | assumption | omega) (by first | assumption | omega) (by first | assumption | omega) (by first | assumption | omega) (by first | assumption | omega)) (cwV 2 hts gX5_high_X5_valueOf rfl rfl rfl hyX5_valueOf ⟨Nat.le_of_ble_eq_true rfl, Nat.le_of_ble_eq_true rfl⟩) hK hM hM.1 rfl rfl hl.1 rfl (Nat.le_of_ble_eq_true rfl) dX5_high_112 ⟨Nat.zero_le _, Nat.zero_le _⟩ (fun z29 e29 => ?_)
                      have e29 : z29.toInt = valZ (σ.1.2.2 t.toNat) (i4 + (1 : Int)) := e29
                      refine z_icmp_le (tgt := 129) hx hb e27 e29 dX5_high_115 (by decide) (fun c_30 => ?_) (fun c_30 => ?_)
                      · refine z_iinc (k := 5) hx hb dX5_high_129 hl rfl hx4 (show (Int32.ofInt 1).toInt = (1 : Int) from rfl) (by omega) (by decide) (fun z31 e31 ls hl => ?_)
                        have hl : lv_has ls 6 [(4, .int z31), (5, .int (1 : Int32)), (0, .ref o), (1, .int x), (2, .int y), (3, .int x3)] := hl
                        refine lv_goto (tgt := 21) hx hb dX5_high_132 (by decide) ?_
                        exact ih21 x3 i3 hx3 z31 (i4 + (1 : Int)) e31 (by omega) (by omega) (by rw [cntI_f (q := hiP (σ.1.2.2 t.toNat)) (by omega) (fun q => by first | exact absurd q.1 (by assumption) | exact absurd q.2.1 (by assumption) | exact absurd q.2.2.1 (by assumption) | (have := q.2.2.2; omega))]; exact hi21_1) (nthI_step (q := hiP (σ.1.2.2 t.toNat)) (by omega) hi21_2 (fun q9 => (fun q => by first | exact absurd q.1 (by assumption) | exact absurd q.2.1 (by assumption) | exact absurd q.2.2.1 (by assumption) | (have := q.2.2.2; omega)) q9.1)) ls (lv_sub hl [2, 3, 4, 5, 0] rfl)
                      · refine lv_iload_n hx hb dX5_high_118 rfl (lv_at hl 4 rfl) ?_
                        refine lv_iload_n hx hb dX5_high_119 rfl (lv_at hl 3 rfl) ?_
                        refine z_icmp_ne (tgt := 126) hx hb hx3 e_y dX5_high_120 (by decide) (fun c_32 => ?_) (fun c_32 => ?_)
                        · refine z_iinc (k := 4) hx hb dX5_high_126 hl rfl hx3 (show (Int32.ofInt 1).toInt = (1 : Int) from rfl) (by omega) (by decide) (fun z33 e33 ls hl => ?_)
                          have hl : lv_has ls 6 [(3, .int z33), (5, .int (1 : Int32)), (0, .ref o), (1, .int x), (2, .int y), (4, .int x4)] := hl
                          refine z_iinc (k := 5) hx hb dX5_high_129 hl rfl hx4 (show (Int32.ofInt 1).toInt = (1 : Int) from rfl) (by omega) (by decide) (fun z34 e34 ls hl => ?_)
                          have hl : lv_has ls 6 [(4, .int z34), (3, .int z33), (5, .int (1 : Int32)), (0, .ref o), (1, .int x), (2, .int y)] := hl
                          refine lv_goto (tgt := 21) hx hb dX5_high_132 (by decide) ?_
                          exact ih21 z33 (i3 + (1 : Int)) e33 z34 (i4 + (1 : Int)) e34 (by omega) (by omega) (by rw [cntI_t (q := hiP (σ.1.2.2 t.toNat)) (by omega) (⟨by assumption, by assumption, by assumption, by omega, by omega⟩ : hiP (σ.1.2.2 t.toNat) i4)]; omega) (nthI_step (q := hiP (σ.1.2.2 t.toNat)) (by omega) hi21_2 (fun q => by omega)) ls (lv_sub hl [3, 4, 5, 1, 0] rfl)
                        · refine lv_iload hx hb dX5_high_123 (lv_at hl 5 rfl) ?_
                          exact z_ri (v := x4) hx hb hr hlocks (show x4.toInt = a_high σ t k from (by unfold a_high hgZ; have hh9 := nthI_hit (q := hiP (σ.1.2.2 t.toNat)) (n := 119) (by omega) hi21_2 (⟨by assumption, by assumption, by assumption, by omega, by omega⟩ : hiP (σ.1.2.2 t.toNat) i4) (by omega) (by omega); rw [if_neg (by omega), if_neg (by omega), hh9, if_neg (by omega)]; exact hx4)) dX5_high_125
      exact cut21 (((119 - (1 : Int)).toNat) + 1) (0 : Int32) (0 : Int) kI_0 (1 : Int32) (1 : Int) kI_1 (Nat.lt_succ_self _) (by omega) (cntI_f (q := hiP (σ.1.2.2 t.toNat)) (i := 0) (by omega) (hi0 _)).symm (nthI_step (q := hiP (σ.1.2.2 t.toNat)) (i := 0) (by omega) rfl (fun q => hi0 _ q.1)) ls (lv_sub hl [2, 3, 4, 1, 0] rfl)
    · refine lv_bipush (v := (-2 : Int32)) hx hb dX5_high_13 (by decide) ?_
      exact z_ri (v := (-2 : Int32)) hx hb hr hlocks (show (-2 : Int32).toInt = a_high σ t k from (by unfold a_high; (repeat' split) <;> first | rfl | omega | contradiction | assumption)) dX5_high_15
  · refine lv_iconst (v := (-1 : Int32)) hx hb dX5_high_7 (by decide) ?_
    exact z_ri (v := (-1 : Int32)) hx hb hr hlocks (show (-1 : Int32).toInt = a_high σ t k from (by unfold a_high; (repeat' split) <;> first | rfl | omega | contradiction | assumption)) dX5_high_8
