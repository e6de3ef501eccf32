abbrev rmX5_gap : Room := { frames := 5, cells := 0, slots := 0, locals := 112 }
theorem iwX5_gap_5 : ∀ w ∈ wsX50, w ∈ wsX5_gap := fun _ h => List.mem_cons_of_mem _ (List.mem_append_right _ h)
theorem flX5_gap_7 : Cond.fieldLink RX5 7 "SiltedFloatsModel" "s" "[I" ∈ wsX5_gap := by decide +kernel
theorem hyX5_gap : yX5_gap.cls = RX5 ∧ yX5_gap.cls ≠ "java/lang/invoke/MethodHandle" ∧ yX5_gap.cls ≠ "java/lang/invoke/VarHandle" ∧ (parseMethodDescriptor yX5_gap.desc).map (fun d => d.parameters.length) = some 3 := by decide +kernel
set_option maxHeartbeats 1000000 in
set_option maxRecDepth 100000 in
theorem kX5_gap (l : Launch) (G : xG) (o : Nat) (μ : MD) (x : Int32) (t : Int) (e_x : x.toInt = t) (y : Int32) (k : Int) (e_y : y.toInt = k) (xw : Int32) (w : Int) (e_xw : xw.toInt = w) (σ : FD) (hRel : Rel σ μ) (hfd : fdOk σ) : Met l yX5_gap wsX5_gap rmX5_gap (va_Pc [.ref o, .int x, .int y, .int xw] (zPre G (fun H => MO G H o μ))) (zS (fun v => v.toInt = a_gap σ t k w)) 0 0 zno := by
  refine z_ofW (cc := cX5_gap) (maxL := 8) (ret := some .int) (by decide +kernel) rfl (Nat.le_of_ble_eq_true rfl) ?_
  intro p e s m below meth c hx hb hml hr hts hown hlocks hK hP ls hl
  have hM := hP
  have hown : s.vm.findClass RX5 = some m.cls := hown
  have hl : lv_has ls 8 [(0, .ref o), (1, .int x), (2, .int y), (3, .int xw)] := hl
  have hR := hRel.1
  have hok := hfd.1
  have hn0 := hR.1
  have hok1 := hok.1
  have hW := hR.w
  have hwo := hok.2.1
  refine lv_iload_n hx hb dX5_gap_0 rfl (lv_at hl 1 rfl) ?_
  refine z_cS (As := [.int x]) (rest := []) ⟨hx, hb, hml, hown, hts⟩ (kX5_isStation l G x t e_x) (va_cwS 1 hts gX5_gap_X5_isStation rfl rfl rfl hyX5_isStation ⟨Nat.le_of_ble_eq_true rfl, Nat.le_of_ble_eq_true rfl⟩) hK trivial rfl hl.1 rfl (Nat.le_of_ble_eq_true rfl) dX5_gap_1 ⟨Nat.zero_le _, Nat.zero_le _⟩ (fun z1 e1 => ?_)
  have e1 : isB z1 (0 ≤ t ∧ t < 3) := e1
  refine z_ifb_eq (tgt := 16) hx hb e1 dX5_gap_4 (by decide) (fun c_2 => ?_) (fun c_2 => ?_)
  · refine lv_iconst (v := (-1 : Int32)) hx hb dX5_gap_16 (by decide) ?_
    exact z_ri (v := (-1 : Int32)) hx hb hr hlocks (show (-1 : Int32).toInt = a_gap σ t k w from (by unfold a_gap; (repeat' split) <;> first | rfl | omega | contradiction | assumption)) dX5_gap_17
  · have hgo := hok.2.2 t.toNat (by omega)
    have ht : 0 ≤ t ∧ t < 3 := c_2
    refine lv_aload_n hx hb dX5_gap_7 rfl (lv_at hl 0 rfl) ?_
    refine lv_iload_n hx hb dX5_gap_8 rfl (lv_at hl 1 rfl) ?_
    refine lv_iload_n hx hb dX5_gap_9 rfl (lv_at hl 2 rfl) ?_
    refine z_cV (As := [.int x, .int y]) (rest := []) ⟨hx, hb, hml, hown, hts⟩ (kX5_isGap l G o μ x t e_x y k e_y σ.1 (by first | assumption | omega) (by first | assumption | omega) (by first | assumption | omega)) (cwV 2 hts gX5_gap_X5_isGap rfl rfl rfl hyX5_isGap ⟨Nat.le_of_ble_eq_true rfl, Nat.le_of_ble_eq_true rfl⟩) hK hM hM.1 rfl rfl hl.1 rfl (Nat.le_of_ble_eq_true rfl) dX5_gap_10 ⟨Nat.zero_le _, Nat.zero_le _⟩ (fun z3 e3 => ?_)
    have e3 : isB z3 (fgZ (σ.1.2.2 t.toNat) k ≠ -1) := e3
    refine z_ifb_ne (tgt := 18) hx hb e3 dX5_gap_13 (by decide) (fun c_4 => ?_) (fun c_4 => ?_)
    · have hgp : fgZ (σ.1.2.2 t.toNat) k ≠ -1 := c_4
      have hgb := gp_b hgo (by omega) hgp
      refine lv_aload_n hx hb dX5_gap_18 rfl (lv_at hl 0 rfl) ?_
      refine lv_iload_n hx hb dX5_gap_19 rfl (lv_at hl 1 rfl) ?_
      refine lv_iload_n hx hb dX5_gap_20 rfl (lv_at hl 2 rfl) ?_
      refine z_cV (As := [.int x, .int y]) (rest := []) ⟨hx, hb, hml, hown, hts⟩ (kX5_beginOf l G o μ x t e_x y k e_y σ.1 (by first | assumption | omega) (by first | assumption | omega) (by first | assumption | omega) (by first | assumption | omega)) (cwV 2 hts gX5_gap_X5_beginOf rfl rfl rfl hyX5_beginOf ⟨Nat.le_of_ble_eq_true rfl, Nat.le_of_ble_eq_true rfl⟩) hK hM hM.1 rfl rfl hl.1 rfl (Nat.le_of_ble_eq_true rfl) dX5_gap_21 ⟨Nat.zero_le _, Nat.zero_le _⟩ (fun z5 e5 => ?_)
      have e5 : z5.toInt = fgZ (σ.1.2.2 t.toNat) k := e5
      refine lv_istore hx hb dX5_gap_24 hl (by decide) rfl (fun ls hl => ?_)
      have hl : lv_has ls 8 [(4, .int z5), (0, .ref o), (1, .int x), (2, .int y), (3, .int xw)] := hl
      refine lv_aload_n hx hb dX5_gap_26 rfl (lv_at hl 1 rfl) ?_
      refine lv_iload_n hx hb dX5_gap_27 rfl (lv_at hl 2 rfl) ?_
      refine lv_iload hx hb dX5_gap_28 (lv_at hl 0 rfl) ?_
      refine z_cV (As := [.int x, .int z5]) (rest := []) ⟨hx, hb, hml, hown, hts⟩ (kX5_endOf l G o μ x t e_x z5 (fgZ (σ.1.2.2 t.toNat) k) e5 σ.1 (by first | assumption | omega) (by first | assumption | omega) (by first | assumption | omega) (by first | assumption | omega)) (cwV 2 hts gX5_gap_X5_endOf rfl rfl rfl hyX5_endOf ⟨Nat.le_of_ble_eq_true rfl, Nat.le_of_ble_eq_true rfl⟩) hK hM hM.1 rfl rfl hl.1 rfl (Nat.le_of_ble_eq_true rfl) dX5_gap_30 ⟨Nat.zero_le _, Nat.zero_le _⟩ (fun z6 e6 => ?_)
      have e6 : z6.toInt = hbZ (σ.1.2.2 t.toNat) (fgZ (σ.1.2.2 t.toNat) k) - 1 := e6
      refine lv_istore hx hb dX5_gap_33 hl (by decide) rfl (fun ls hl => ?_)
      have hl : lv_has ls 8 [(5, .int z6), (4, .int z5), (0, .ref o), (1, .int x), (2, .int y), (3, .int xw)] := hl
      refine lv_iload_n hx hb dX5_gap_35 rfl (lv_at hl 5 rfl) ?_
      rcases (show w < 0 ∨ 3 < w ∨ w = 0 ∨ w = 1 ∨ w = 2 ∨ w = 3 from by omega) with c_7 | c_7 | c_7 | c_7 | c_7 | c_7
      · refine lv_tableOut (tgt := 132) hx hb dX5_gap_36 (by rw [e_xw]; omega) (by decide) ?_
        refine lv_bipush (v := (-2 : Int32)) hx hb dX5_gap_132 (by decide) ?_
        exact z_ri (v := (-2 : Int32)) hx hb hr hlocks (show (-2 : Int32).toInt = a_gap σ t k w from (by unfold a_gap; rw [if_neg (fun q => q ⟨by omega, hgp⟩)]; exact (gpW_out (by omega)).symm)) dX5_gap_134
      · refine lv_tableOut (tgt := 132) hx hb dX5_gap_36 (by rw [e_xw]; omega) (by decide) ?_
        refine lv_bipush (v := (-2 : Int32)) hx hb dX5_gap_132 (by decide) ?_
        exact z_ri (v := (-2 : Int32)) hx hb hr hlocks (show (-2 : Int32).toInt = a_gap σ t k w from (by unfold a_gap; rw [if_neg (fun q => q ⟨by omega, hgp⟩)]; exact (gpW_out (by omega)).symm)) dX5_gap_134
      · refine lv_tableIn (off := 32) (tgt := 68) hx hb dX5_gap_36 (by rw [e_xw]; omega) (by rw [e_xw]; omega) (by rw [e_xw, c_7]; rfl) (by decide) ?_
        refine lv_iload hx hb dX5_gap_68 (lv_at hl 1 rfl) ?_
        exact z_ri (v := z5) hx hb hr hlocks (show z5.toInt = a_gap σ t k w from (by unfold a_gap; rw [if_neg (fun q => q ⟨by omega, hgp⟩)]; have hw9 : w = 0 := (by omega); subst hw9; exact e5)) dX5_gap_70
      · refine lv_tableIn (off := 35) (tgt := 71) hx hb dX5_gap_36 (by rw [e_xw]; omega) (by rw [e_xw]; omega) (by rw [e_xw, c_7]; rfl) (by decide) ?_
        refine lv_iload hx hb dX5_gap_71 (lv_at hl 0 rfl) ?_
        exact z_ri (v := z6) hx hb hr hlocks (show z6.toInt = a_gap σ t k w from (by unfold a_gap; rw [if_neg (fun q => q ⟨by omega, hgp⟩)]; have hw9 : w = 1 := (by omega); subst hw9; exact e6)) dX5_gap_73
      · refine lv_tableIn (off := 38) (tgt := 74) hx hb dX5_gap_36 (by rw [e_xw]; omega) (by rw [e_xw]; omega) (by rw [e_xw, c_7]; rfl) (by decide) ?_
        refine lv_aload_n hx hb dX5_gap_74 rfl (lv_at hl 2 rfl) ?_
        refine lv_iload_n hx hb dX5_gap_75 rfl (lv_at hl 3 rfl) ?_
        refine lv_iload_n hx hb dX5_gap_76 rfl (lv_at hl 4 rfl) ?_
        refine z_cV (As := [.int x, .int y]) (rest := []) ⟨hx, hb, hml, hown, hts⟩ (kX5_isInner l G o μ x t e_x y k e_y σ.1 (by first | assumption | omega) (by first | assumption | omega) (by first | assumption | omega) (by first | assumption | omega)) (cwV 2 hts gX5_gap_X5_isInner rfl rfl rfl hyX5_isInner ⟨Nat.le_of_ble_eq_true rfl, Nat.le_of_ble_eq_true rfl⟩) hK hM hM.1 rfl rfl hl.1 rfl (Nat.le_of_ble_eq_true rfl) dX5_gap_77 ⟨Nat.zero_le _, Nat.zero_le _⟩ (fun z8 e8 => ?_)
        have e8 : isB z8 (inP (σ.1.2.2 t.toNat) k) := e8
        refine z_ifb_eq (tgt := 87) hx hb e8 dX5_gap_80 (by decide) (fun c_9 => ?_) (fun c_9 => ?_)
        · refine lv_iconst (v := (0 : Int32)) hx hb dX5_gap_87 (by decide) ?_
          exact z_ri (v := (0 : Int32)) hx hb hr hlocks (show (0 : Int32).toInt = a_gap σ t k w from (by unfold a_gap; rw [if_neg (fun q => q ⟨by omega, hgp⟩)]; have hw9 : w = 2 := (by omega); subst hw9; first | exact (if_pos (by assumption)).symm | exact (if_neg (by assumption)).symm)) dX5_gap_88
        · refine lv_iconst (v := (1 : Int32)) hx hb dX5_gap_83 (by decide) ?_
          refine lv_goto (tgt := 88) hx hb dX5_gap_84 (by decide) ?_
          exact z_ri (v := (1 : Int32)) hx hb hr hlocks (show (1 : Int32).toInt = a_gap σ t k w from (by unfold a_gap; rw [if_neg (fun q => q ⟨by omega, hgp⟩)]; have hw9 : w = 2 := (by omega); subst hw9; first | exact (if_pos (by assumption)).symm | exact (if_neg (by assumption)).symm)) dX5_gap_88
      · refine lv_tableIn (off := 53) (tgt := 89) hx hb dX5_gap_36 (by rw [e_xw]; omega) (by rw [e_xw]; omega) (by rw [e_xw, c_7]; rfl) (by decide) ?_
        refine lv_iconst (v := (0 : Int32)) hx hb dX5_gap_89 (by decide) ?_
        refine lv_istore hx hb dX5_gap_90 hl (by decide) rfl (fun ls hl => ?_)
        have hl : lv_has ls 8 [(6, .int (0 : Int32)), (5, .int z6), (4, .int z5), (0, .ref o), (1, .int x), (2, .int y), (3, .int xw)] := hl
        refine lv_iload hx hb dX5_gap_92 (lv_at hl 2 rfl) ?_
        refine lv_istore hx hb dX5_gap_94 hl (by decide) rfl (fun ls hl => ?_)
        have hl : lv_has ls 8 [(7, .int z5), (6, .int (0 : Int32)), (5, .int z6), (4, .int z5), (0, .ref o), (1, .int x), (2, .int y), (3, .int xw)] := hl
        have cut96 : ∀ (n96 : Nat), ∀ (x6 : Int32) (i6 : Int) (_ : x6.toInt = i6) (x7 : Int32) (i7 : Int) (_ : x7.toInt = i7), (hbZ (σ.1.2.2 t.toNat) (fgZ (σ.1.2.2 t.toNat) k) - i7).toNat < n96 → (fgZ (σ.1.2.2 t.toNat) k ≤ i7 ∧ i7 ≤ hbZ (σ.1.2.2 t.toNat) (fgZ (σ.1.2.2 t.toNat) k)) → (i6 = sumZ (fun i => if kindZ (σ.1.2.2 t.toNat) i = 2 then 1 else 0) (fgZ (σ.1.2.2 t.toNat) k) (i7 - fgZ (σ.1.2.2 t.toNat) k).toNat) → (0 ≤ i6 ∧ i6 ≤ i7 - fgZ (σ.1.2.2 t.toNat) k) → ∀ ls : Array Slot, lv_has ls 8 [(0, .ref o), (1, .int x), (2, .int y), (3, .int xw), (4, .int z5), (5, .int z6), (6, .int x6), (7, .int x7)] → W p l e rmX5_gap s m ([.ref o, .int x, .int y, .int xw] : List Value).toArray below meth c s.heap [] 0 0 (MQ below (zS (fun v => v.toInt = a_gap σ t k w)) ([.ref o, .int x, .int y, .int xw] : List Value).toArray s 0 0 zno) (F0 m 96 ls []) := by
          intro n96
          induction n96 with
          | zero =>
            intro x6 i6 hx6 x7 i7 hx7 hmu96 hi96_0 hi96_1 hi96_2 ls hl
            exact absurd hmu96 (Nat.not_lt_zero _)
          | succ n96 ih96 =>
            intro x6 i6 hx6 x7 i7 hx7 hmu96 hi96_0 hi96_1 hi96_2 ls hl
            refine lv_iload hx hb dX5_gap_96 (lv_at hl 7 rfl) ?_
            refine lv_iload hx hb dX5_gap_98 (lv_at hl 5 rfl) ?_
            refine z_icmp_gt (tgt := 129) hx hb hx7 e6 dX5_gap_100 (by decide) (fun c_10 => ?_) (fun c_10 => ?_)
            · refine lv_iload hx hb dX5_gap_129 (lv_at hl 6 rfl) ?_
              exact z_ri (v := x6) hx hb hr hlocks (show x6.toInt = a_gap σ t k w from (by unfold a_gap; rw [if_neg (fun q => q ⟨by omega, hgp⟩)]; have hw9 : w = 3 := (by omega); subst hw9; rw [hx6, hi96_1, show i7 = hbZ (σ.1.2.2 t.toNat) (fgZ (σ.1.2.2 t.toNat) k) by omega]; rfl)) dX5_gap_131
            · have hm9 := (hR.rd ht (i := i7) (by omega)).2.1
              refine lv_iload hx hb dX5_gap_103 (lv_at hl 6 rfl) ?_
              refine lv_aload_n hx hb dX5_gap_105 rfl (lv_at hl 0 rfl) ?_
              refine z_get hx hb hts iwX5_gap_5 hown hK hM.1 rfl 0 (by decide) flX5_gap_7 rfl (v := .ref (o + 1)) rfl dX5_gap_106 ?_
              refine lv_iload_n hx hb dX5_gap_109 rfl (lv_at hl 1 rfl) ?_
              refine lv_sipush (v := (369 : Int32)) hx hb dX5_gap_110 (by decide) ?_
              refine lv_iload hx hb dX5_gap_113 (lv_at hl 7 rfl) ?_
              refine z_iadd hx hb kI_369 hx7 dX5_gap_115 (by omega) (fun z11 e11 => ?_)
              refine z_cS (As := [.int x, .int z11]) (rest := [.ref (o + 1), .int x6]) ⟨hx, hb, hml, hown, hts⟩ (kX5_of l G x t e_x z11 ((369 : Int) + i7) e11 (by first | assumption | omega)) (va_cwS 2 hts gX5_gap_X5_of rfl rfl rfl hyX5_of ⟨Nat.le_of_ble_eq_true rfl, Nat.le_of_ble_eq_true rfl⟩) hK trivial rfl hl.1 rfl (Nat.le_of_ble_eq_true rfl) dX5_gap_116 ⟨Nat.zero_le _, Nat.zero_le _⟩ (fun z12 e12 => ?_)
              have e12 : z12.toInt = 10 + 731 * t + ((369 : Int) + i7) := e12
              refine z_iald (f := μ.2.1) hx hb hK 0 hM.2.1 rfl e12 (by omega) dX5_gap_119 ?_
              have hcl13 : (μ.2.1 (10 + 731 * t + ((369 : Int) + i7)).toNat).toInt = (if kindZ (σ.1.2.2 t.toNat) i7 = 2 then (1 : Int) else 0) := hm9
              refine z_iadd hx hb hx6 hcl13 dX5_gap_120 (by omega) (fun z14 e14 => ?_)
              refine lv_istore hx hb dX5_gap_121 hl (by decide) rfl (fun ls hl => ?_)
              have hl : lv_has ls 8 [(6, .int z14), (0, .ref o), (1, .int x), (2, .int y), (3, .int xw), (4, .int z5), (5, .int z6), (7, .int x7)] := hl
              refine z_iinc (k := 7) hx hb dX5_gap_123 hl rfl hx7 (show (Int32.ofInt 1).toInt = (1 : Int) from rfl) (by omega) (by decide) (fun z15 e15 ls hl => ?_)
              have hl : lv_has ls 8 [(7, .int z15), (6, .int z14), (0, .ref o), (1, .int x), (2, .int y), (3, .int xw), (4, .int z5), (5, .int z6)] := hl
              refine lv_goto (tgt := 96) hx hb dX5_gap_126 (by decide) ?_
              exact ih96 z14 (i6 + (if kindZ (σ.1.2.2 t.toNat) i7 = 2 then (1 : Int) else 0)) e14 z15 (i7 + (1 : Int)) e15 (by omega) (by omega) (by omega) (by omega) ls (lv_sub hl [2, 3, 4, 5, 6, 7, 1, 0] rfl)
        exact cut96 (((hbZ (σ.1.2.2 t.toNat) (fgZ (σ.1.2.2 t.toNat) k) - (fgZ (σ.1.2.2 t.toNat) k)).toNat) + 1) (0 : Int32) (0 : Int) kI_0 z5 (fgZ (σ.1.2.2 t.toNat) k) e5 (Nat.lt_succ_self _) (by omega) (by omega) (by omega) ls (lv_sub hl [4, 5, 6, 7, 3, 2, 1, 0] rfl)
    · refine lv_iconst (v := (-1 : Int32)) hx hb dX5_gap_16 (by decide) ?_
      exact z_ri (v := (-1 : Int32)) hx hb hr hlocks (show (-1 : Int32).toInt = a_gap σ t k w from (by unfold a_gap; (repeat' split) <;> first | rfl | omega | contradiction | assumption)) dX5_gap_17
