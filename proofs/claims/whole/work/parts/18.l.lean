abbrev rmX5_isBegin : Room := { frames := 2, cells := 0, slots := 0, locals := 44 }
theorem iwX5_isBegin_5 : ∀ w ∈ wsX50, w ∈ wsX5_isBegin := fun _ h => List.mem_cons_of_mem _ (List.mem_append_right _ h)
theorem flX5_isBegin_7 : Cond.fieldLink RX5 7 "SiltedFloatsModel" "s" "[I" ∈ wsX5_isBegin := by decide +kernel
theorem hyX5_isBegin : yX5_isBegin.cls = RX5 ∧ yX5_isBegin.cls ≠ "java/lang/invoke/MethodHandle" ∧ yX5_isBegin.cls ≠ "java/lang/invoke/VarHandle" ∧ (parseMethodDescriptor yX5_isBegin.desc).map (fun d => d.parameters.length) = some 2 := by decide +kernel
set_option maxHeartbeats 4000000 in
set_option maxRecDepth 100000 in
theorem kX5_isBegin (l : Launch) (G : xG) (o : Nat) (μ : MD) (x : Int32) (t : Int) (e_x : x.toInt = t) (y : Int32) (h : Int) (e_y : y.toInt = h) (τ : SD) (hR : Rs τ μ.2.1) (hok : stOk τ) (ht : 0 ≤ t ∧ t < 3) (hh : -1000 ≤ h ∧ h ≤ 1000) : Met l yX5_isBegin wsX5_isBegin rmX5_isBegin (va_Pc [.ref o, .int x, .int y] (zPre G (fun H => MO G H o μ))) (zS (fun v => isB v (sgP (τ.2.2 t.toNat) h))) 0 0 zno := by
  refine z_ofW (cc := cX5_isBegin) (maxL := 3) (ret := some .boolean) (by decide +kernel) rfl (Nat.le_of_ble_eq_true rfl) ?_
  intro p e s m below meth c hx hb hml hr hts hown hlocks hK hP ls hl
  have hM := hP
  have hown : s.vm.findClass RX5 = some m.cls := hown
  have hl : lv_has ls 3 [(0, .ref o), (1, .int x), (2, .int y)] := hl
  have hn0 := hR.1
  have hok1 := hok.1
  have hgo := hok.2.2 t.toNat (by omega)
  refine lv_iload_n hx hb dX5_isBegin_0 rfl (lv_at hl 2 rfl) ?_
  refine lv_iconst (v := (0 : Int32)) hx hb dX5_isBegin_1 (by decide) ?_
  refine lv_aload_n hx hb dX5_isBegin_2 rfl (lv_at hl 0 rfl) ?_
  refine z_get hx hb hts iwX5_isBegin_5 hown hK hM.1 rfl 0 (by decide) flX5_isBegin_7 rfl (v := .ref (o + 1)) rfl dX5_isBegin_3 ?_
  refine lv_iconst (v := (0 : Int32)) hx hb dX5_isBegin_6 (by decide) ?_
  refine z_iald (f := μ.2.1) hx hb hK 0 hM.2.1 rfl kI_0 (by omega) dX5_isBegin_7 ?_
  have hcl1 : (μ.2.1 (0 : Int).toNat).toInt = τ.1.toInt := hn0
  refine lv_iconst (v := (1 : Int32)) hx hb dX5_isBegin_8 (by decide) ?_
  refine z_isub hx hb hcl1 kI_1 dX5_isBegin_9 (by omega) (fun z2 e2 => ?_)
  refine z_cS (As := [.int y, .int (0 : Int32), .int z2]) (rest := []) ⟨hx, hb, hml, hown, hts⟩ (kX5_in l G y h e_y (0 : Int32) (0 : Int) kI_0 z2 (τ.1.toInt - (1 : Int)) e2) (va_cwS 3 hts gX5_isBegin_X5_in rfl rfl rfl hyX5_in ⟨Nat.le_of_ble_eq_true rfl, Nat.le_of_ble_eq_true rfl⟩) hK trivial rfl hl.1 rfl (Nat.le_of_ble_eq_true rfl) dX5_isBegin_10 ⟨Nat.zero_le _, Nat.zero_le _⟩ (fun z3 e3 => ?_)
  have e3 : isB z3 ((0 : Int) ≤ h ∧ h ≤ (τ.1.toInt - (1 : Int))) := e3
  refine z_ifb_eq (tgt := 44) hx hb e3 dX5_isBegin_13 (by decide) (fun c_4 => ?_) (fun c_4 => ?_)
  · refine lv_iconst (v := (0 : Int32)) hx hb dX5_isBegin_44 (by decide) ?_
    exact z_rb (v := (0 : Int32)) hx hb hr hlocks rfl (isB.f rfl (by rw [sg_iff hgo (by omega)]; intro q; first | omega | exact q.2.1 (by assumption) | exact q.2.2.elim (by assumption) (by assumption))) dX5_isBegin_45
  · refine lv_aload_n hx hb dX5_isBegin_16 rfl (lv_at hl 0 rfl) ?_
    refine lv_iload_n hx hb dX5_isBegin_17 rfl (lv_at hl 1 rfl) ?_
    refine lv_iload_n hx hb dX5_isBegin_18 rfl (lv_at hl 2 rfl) ?_
    refine z_cV (As := [.int x, .int y]) (rest := []) ⟨hx, hb, hml, hown, hts⟩ (kX5_isRead l G o μ x t e_x y h e_y τ (by first | assumption | omega) (by first | assumption | omega) (by first | assumption | omega) (by first | assumption | omega)) (cwV 2 hts gX5_isBegin_X5_isRead rfl rfl rfl hyX5_isRead ⟨Nat.le_of_ble_eq_true rfl, Nat.le_of_ble_eq_true rfl⟩) hK hM hM.1 rfl rfl hl.1 rfl (Nat.le_of_ble_eq_true rfl) dX5_isBegin_19 ⟨Nat.zero_le _, Nat.zero_le _⟩ (fun z5 e5 => ?_)
    have e5 : isB z5 (kindZ (τ.2.2 t.toNat) h = 0) := e5
    refine z_ifb_ne (tgt := 44) hx hb e5 dX5_isBegin_22 (by decide) (fun c_6 => ?_) (fun c_6 => ?_)
    · refine lv_iconst (v := (0 : Int32)) hx hb dX5_isBegin_44 (by decide) ?_
      exact z_rb (v := (0 : Int32)) hx hb hr hlocks rfl (isB.f rfl (by rw [sg_iff hgo (by omega)]; intro q; first | omega | exact q.2.1 (by assumption) | exact q.2.2.elim (by assumption) (by assumption))) dX5_isBegin_45
    · refine lv_iload_n hx hb dX5_isBegin_25 rfl (lv_at hl 2 rfl) ?_
      refine z_if_eq (tgt := 40) hx hb e_y dX5_isBegin_26 (by decide) (fun c_7 => ?_) (fun c_7 => ?_)
      · refine lv_iconst (v := (1 : Int32)) hx hb dX5_isBegin_40 (by decide) ?_
        refine lv_goto (tgt := 45) hx hb dX5_isBegin_41 (by decide) ?_
        exact z_rb (v := (1 : Int32)) hx hb hr hlocks rfl (isB.t rfl ((sg_iff hgo (by omega)).mpr ⟨by omega, by assumption, by first | exact Or.inl (by assumption) | exact Or.inr (by assumption)⟩)) dX5_isBegin_45
      · refine lv_aload_n hx hb dX5_isBegin_29 rfl (lv_at hl 0 rfl) ?_
        refine lv_iload_n hx hb dX5_isBegin_30 rfl (lv_at hl 1 rfl) ?_
        refine lv_iload_n hx hb dX5_isBegin_31 rfl (lv_at hl 2 rfl) ?_
        refine lv_iconst (v := (1 : Int32)) hx hb dX5_isBegin_32 (by decide) ?_
        refine z_isub hx hb e_y kI_1 dX5_isBegin_33 (by omega) (fun z8 e8 => ?_)
        refine z_cV (As := [.int x, .int z8]) (rest := []) ⟨hx, hb, hml, hown, hts⟩ (kX5_isRead l G o μ x t e_x z8 (h - (1 : Int)) e8 τ (by first | assumption | omega) (by first | assumption | omega) (by first | assumption | omega) (by first | assumption | omega)) (cwV 2 hts gX5_isBegin_X5_isRead rfl rfl rfl hyX5_isRead ⟨Nat.le_of_ble_eq_true rfl, Nat.le_of_ble_eq_true rfl⟩) hK hM hM.1 rfl rfl hl.1 rfl (Nat.le_of_ble_eq_true rfl) dX5_isBegin_34 ⟨Nat.zero_le _, Nat.zero_le _⟩ (fun z9 e9 => ?_)
        have e9 : isB z9 (kindZ (τ.2.2 t.toNat) (h - (1 : Int)) = 0) := e9
        refine z_ifb_eq (tgt := 44) hx hb e9 dX5_isBegin_37 (by decide) (fun c_10 => ?_) (fun c_10 => ?_)
        · refine lv_iconst (v := (0 : Int32)) hx hb dX5_isBegin_44 (by decide) ?_
          exact z_rb (v := (0 : Int32)) hx hb hr hlocks rfl (isB.f rfl (by rw [sg_iff hgo (by omega)]; intro q; first | omega | exact q.2.1 (by assumption) | exact q.2.2.elim (by assumption) (by assumption))) dX5_isBegin_45
        · refine lv_iconst (v := (1 : Int32)) hx hb dX5_isBegin_40 (by decide) ?_
          refine lv_goto (tgt := 45) hx hb dX5_isBegin_41 (by decide) ?_
          exact z_rb (v := (1 : Int32)) hx hb hr hlocks rfl (isB.t rfl ((sg_iff hgo (by omega)).mpr ⟨by omega, by assumption, by first | exact Or.inl (by assumption) | exact Or.inr (by assumption)⟩)) dX5_isBegin_45

abbrev rmX5_gapsOf : Room := { frames := 3, cells := 0, slots := 0, locals := 66 }
theorem iwX5_gapsOf_5 : ∀ w ∈ wsX50, w ∈ wsX5_gapsOf := fun _ h => List.mem_cons_of_mem _ (List.mem_append_right _ h)
theorem flX5_gapsOf_7 : Cond.fieldLink RX5 7 "SiltedFloatsModel" "s" "[I" ∈ wsX5_gapsOf := by decide +kernel
theorem hyX5_gapsOf : yX5_gapsOf.cls = RX5 ∧ yX5_gapsOf.cls ≠ "java/lang/invoke/MethodHandle" ∧ yX5_gapsOf.cls ≠ "java/lang/invoke/VarHandle" ∧ (parseMethodDescriptor yX5_gapsOf.desc).map (fun d => d.parameters.length) = some 1 := by decide +kernel
set_option maxHeartbeats 4000000 in
set_option maxRecDepth 100000 in
theorem kX5_gapsOf (l : Launch) (G : xG) (o : Nat) (μ : MD) (x : Int32) (t : Int) (e_x : x.toInt = t) (τ : SD) (hR : Rs τ μ.2.1) (hok : stOk τ) (ht : 0 ≤ t ∧ t < 3) : Met l yX5_gapsOf wsX5_gapsOf rmX5_gapsOf (va_Pc [.ref o, .int x] (zPre G (fun H => MO G H o μ))) (zS (fun v => v.toInt = gapsZ (τ.2.2 t.toNat))) 0 0 zno := by
  refine z_ofW (cc := cX5_gapsOf) (maxL := 4) (ret := some .int) (by decide +kernel) rfl (Nat.le_of_ble_eq_true rfl) ?_
  intro p e s m below meth c hx hb hml hr hts hown hlocks hK hP ls hl
  have hM := hP
  have hown : s.vm.findClass RX5 = some m.cls := hown
  have hl : lv_has ls 4 [(0, .ref o), (1, .int x)] := hl
  have hn0 := hR.1
  have hok1 := hok.1
  have hgo := hok.2.2 t.toNat (by omega)
  have cut4 : ∀ (n4 : Nat), ∀ (x2 : Int32) (i2 : Int) (_ : x2.toInt = i2) (x3 : Int32) (i3 : Int) (_ : x3.toInt = i3), (τ.1.toInt - i3).toNat < n4 → (0 ≤ i3 ∧ i3 ≤ τ.1.toInt) → (i2 = cntZ (fun j => sgP (τ.2.2 t.toNat) (j : Int)) i3.toNat) → ∀ ls : Array Slot, lv_has ls 4 [(0, .ref o), (1, .int x), (2, .int x2), (3, .int x3)] → W p l e rmX5_gapsOf s m ([.ref o, .int x] : List Value).toArray below meth c s.heap [] 0 0 (MQ below (zS (fun v => v.toInt = gapsZ (τ.2.2 t.toNat))) ([.ref o, .int x] : List Value).toArray s 0 0 zno) (F0 m 4 ls []) := by
    intro n4
    induction n4 with
    | zero =>
      intro x2 i2 hx2 x3 i3 hx3 hmu4 hi4_0 hi4_1 ls hl
      exact absurd hmu4 (Nat.not_lt_zero _)
    | succ n4 ih4 =>
      intro x2 i2 hx2 x3 i3 hx3 hmu4 hi4_0 hi4_1 ls hl
      have hcb := cntZ_b (fun j => sgP (τ.2.2 t.toNat) (j : Int)) i3.toNat
      refine lv_iload_n hx hb dX5_gapsOf_4 rfl (lv_at hl 3 rfl) ?_
      refine lv_aload_n hx hb dX5_gapsOf_5 rfl (lv_at hl 0 rfl) ?_
      refine z_get hx hb hts iwX5_gapsOf_5 hown hK hM.1 rfl 0 (by decide) flX5_gapsOf_7 rfl (v := .ref (o + 1)) rfl dX5_gapsOf_6 ?_
      refine lv_iconst (v := (0 : Int32)) hx hb dX5_gapsOf_9 (by decide) ?_
      refine z_iald (f := μ.2.1) hx hb hK 0 hM.2.1 rfl kI_0 (by omega) dX5_gapsOf_10 ?_
      have hcl1 : (μ.2.1 (0 : Int).toNat).toInt = τ.1.toInt := hn0
      refine z_icmp_ge (tgt := 37) hx hb hx3 hcl1 dX5_gapsOf_11 (by decide) (fun c_2 => ?_) (fun c_2 => ?_)
      · refine lv_iload_n hx hb dX5_gapsOf_37 rfl (lv_at hl 2 rfl) ?_
        exact z_ri (v := x2) hx hb hr hlocks (show x2.toInt = gapsZ (τ.2.2 t.toNat) from (by rw [hx2, hi4_1, show i3 = τ.1.toInt by omega]; exact gapsZ_n hgo (by omega))) dX5_gapsOf_38
      · refine lv_iload_n hx hb dX5_gapsOf_14 rfl (lv_at hl 2 rfl) ?_
        refine lv_aload_n hx hb dX5_gapsOf_15 rfl (lv_at hl 0 rfl) ?_
        refine lv_iload_n hx hb dX5_gapsOf_16 rfl (lv_at hl 1 rfl) ?_
        refine lv_iload_n hx hb dX5_gapsOf_17 rfl (lv_at hl 3 rfl) ?_
        refine z_cV (As := [.int x, .int x3]) (rest := [.int x2]) ⟨hx, hb, hml, hown, hts⟩ (kX5_isBegin l G o μ x t e_x x3 i3 hx3 τ (by first | assumption | omega) (by first | assumption | omega) (by first | assumption | omega) (by first | assumption | omega)) (cwV 2 hts gX5_gapsOf_X5_isBegin rfl rfl rfl hyX5_isBegin ⟨Nat.le_of_ble_eq_true rfl, Nat.le_of_ble_eq_true rfl⟩) hK hM hM.1 rfl rfl hl.1 rfl (Nat.le_of_ble_eq_true rfl) dX5_gapsOf_18 ⟨Nat.zero_le _, Nat.zero_le _⟩ (fun z3 e3 => ?_)
        have e3 : isB z3 (sgP (τ.2.2 t.toNat) i3) := e3
        refine z_ifb_eq (tgt := 28) hx hb e3 dX5_gapsOf_21 (by decide) (fun c_4 => ?_) (fun c_4 => ?_)
        · refine lv_iconst (v := (0 : Int32)) hx hb dX5_gapsOf_28 (by decide) ?_
          refine z_iadd hx hb hx2 kI_0 dX5_gapsOf_29 (by omega) (fun z5 e5 => ?_)
          refine lv_istore_n hx hb dX5_gapsOf_30 rfl hl (by decide) rfl (fun ls hl => ?_)
          have hl : lv_has ls 4 [(2, .int z5), (0, .ref o), (1, .int x), (3, .int x3)] := hl
          refine z_iinc (k := 3) hx hb dX5_gapsOf_31 hl rfl hx3 (show (Int32.ofInt 1).toInt = (1 : Int) from rfl) (by omega) (by decide) (fun z6 e6 ls hl => ?_)
          have hl : lv_has ls 4 [(3, .int z6), (2, .int z5), (0, .ref o), (1, .int x)] := hl
          refine lv_goto (tgt := 4) hx hb dX5_gapsOf_34 (by decide) ?_
          exact ih4 z5 (i2 + (0 : Int)) e5 z6 (i3 + (1 : Int)) e6 (by omega) (by omega) (by rw [cntI_f (q := sgP (τ.2.2 t.toNat)) (by omega) (by assumption)]; omega) ls (lv_sub hl [2, 3, 1, 0] rfl)
        · refine lv_iconst (v := (1 : Int32)) hx hb dX5_gapsOf_24 (by decide) ?_
          refine lv_goto (tgt := 29) hx hb dX5_gapsOf_25 (by decide) ?_
          refine z_iadd hx hb hx2 kI_1 dX5_gapsOf_29 (by omega) (fun z7 e7 => ?_)
          refine lv_istore_n hx hb dX5_gapsOf_30 rfl hl (by decide) rfl (fun ls hl => ?_)
          have hl : lv_has ls 4 [(2, .int z7), (0, .ref o), (1, .int x), (3, .int x3)] := hl
          refine z_iinc (k := 3) hx hb dX5_gapsOf_31 hl rfl hx3 (show (Int32.ofInt 1).toInt = (1 : Int) from rfl) (by omega) (by decide) (fun z8 e8 ls hl => ?_)
          have hl : lv_has ls 4 [(3, .int z8), (2, .int z7), (0, .ref o), (1, .int x)] := hl
          refine lv_goto (tgt := 4) hx hb dX5_gapsOf_34 (by decide) ?_
          exact ih4 z7 (i2 + (1 : Int)) e7 z8 (i3 + (1 : Int)) e8 (by omega) (by omega) (by rw [cntI_t (q := sgP (τ.2.2 t.toNat)) (by omega) (by assumption)]; omega) ls (lv_sub hl [2, 3, 1, 0] rfl)
  refine lv_iconst (v := (0 : Int32)) hx hb dX5_gapsOf_0 (by decide) ?_
  refine lv_istore_n hx hb dX5_gapsOf_1 rfl hl (by decide) rfl (fun ls hl => ?_)
  have hl : lv_has ls 4 [(2, .int (0 : Int32)), (0, .ref o), (1, .int x)] := hl
  refine lv_iconst (v := (0 : Int32)) hx hb dX5_gapsOf_2 (by decide) ?_
  refine lv_istore_n hx hb dX5_gapsOf_3 rfl hl (by decide) rfl (fun ls hl => ?_)
  have hl : lv_has ls 4 [(3, .int (0 : Int32)), (2, .int (0 : Int32)), (0, .ref o), (1, .int x)] := hl
  exact cut4 (((τ.1.toInt - (0 : Int)).toNat) + 1) (0 : Int32) (0 : Int) kI_0 (0 : Int32) (0 : Int) kI_0 (Nat.lt_succ_self _) (by omega) rfl ls (lv_sub hl [2, 3, 1, 0] rfl)

abbrev rmX5_beginOf : Room := { frames := 3, cells := 0, slots := 0, locals := 66 }
theorem hyX5_beginOf : yX5_beginOf.cls = RX5 ∧ yX5_beginOf.cls ≠ "java/lang/invoke/MethodHandle" ∧ yX5_beginOf.cls ≠ "java/lang/invoke/VarHandle" ∧ (parseMethodDescriptor yX5_beginOf.desc).map (fun d => d.parameters.length) = some 2 := by decide +kernel
set_option maxHeartbeats 4000000 in
set_option maxRecDepth 100000 in
theorem kX5_beginOf (l : Launch) (G : xG) (o : Nat) (μ : MD) (x : Int32) (t : Int) (e_x : x.toInt = t) (y : Int32) (k : Int) (e_y : y.toInt = k) (τ : SD) (hR : Rs τ μ.2.1) (hok : stOk τ) (ht : 0 ≤ t ∧ t < 3) (hgp : fgZ (τ.2.2 t.toNat) k ≠ -1) : Met l yX5_beginOf wsX5_beginOf rmX5_beginOf (va_Pc [.ref o, .int x, .int y] (zPre G (fun H => MO G H o μ))) (zS (fun v => v.toInt = fgZ (τ.2.2 t.toNat) k)) 0 0 zno := by
  refine z_ofW (cc := cX5_beginOf) (maxL := 5) (ret := some .int) (by decide +kernel) rfl (Nat.le_of_ble_eq_true rfl) ?_
  intro p e s m below meth c hx hb hml hr hts hown hlocks hK hP ls hl
  have hM := hP
  have hown : s.vm.findClass RX5 = some m.cls := hown
  have hl : lv_has ls 5 [(0, .ref o), (1, .int x), (2, .int y)] := hl
  have hn0 := hR.1
  have hok1 := hok.1
  have hgo := hok.2.2 t.toNat (by omega)
  have hgb : 0 ≤ gapsZ (τ.2.2 t.toNat) ∧ gapsZ (τ.2.2 t.toNat) ≤ 120 := cntZ_b _ 120
  have hfs := fg_spec hgp
  have hge : cntZ (fun j => sgP (τ.2.2 t.toNat) (j : Int)) 120 = gapsZ (τ.2.2 t.toNat) := rfl
  have cut5 : ∀ (n5 : Nat), ∀ (x3 : Int32) (i3 : Int) (_ : x3.toInt = i3) (x4 : Int32) (i4 : Int) (_ : x4.toInt = i4), (k + 1 - i4).toNat < n5 → (-1 ≤ i3 ∧ i3 < 120) → (0 ≤ i4 ∧ i4 ≤ k + 1) → (cntZ (fun j => sgP (τ.2.2 t.toNat) (j : Int)) (i3 + 1).toNat = i4) → (i4 = 0 ∨ sgP (τ.2.2 t.toNat) i3) → ∀ ls : Array Slot, lv_has ls 5 [(0, .ref o), (1, .int x), (2, .int y), (3, .int x3), (4, .int x4)] → W p l e rmX5_beginOf s m ([.ref o, .int x, .int y] : List Value).toArray below meth c s.heap [] 0 0 (MQ below (zS (fun v => v.toInt = fgZ (τ.2.2 t.toNat) k)) ([.ref o, .int x, .int y] : List Value).toArray s 0 0 zno) (F0 m 5 ls []) := by
    intro n5
    induction n5 with
    | zero =>
      intro x3 i3 hx3 x4 i4 hx4 hmu5 hi5_0 hi5_1 hi5_2 hi5_3 ls hl
      exact absurd hmu5 (Nat.not_lt_zero _)
    | succ n5 ih5 =>
      intro x3 i3 hx3 x4 i4 hx4 hmu5 hi5_0 hi5_1 hi5_2 hi5_3 ls hl
      refine lv_iload hx hb dX5_beginOf_5 (lv_at hl 4 rfl) ?_
      refine lv_iload_n hx hb dX5_beginOf_7 rfl (lv_at hl 2 rfl) ?_
      refine z_icmp_gt (tgt := 35) hx hb hx4 e_y dX5_beginOf_8 (by decide) (fun c_1 => ?_) (fun c_1 => ?_)
      · refine lv_iload_n hx hb dX5_beginOf_35 rfl (lv_at hl 3 rfl) ?_
        exact z_ri (v := x3) hx hb hr hlocks (show x3.toInt = fgZ (τ.2.2 t.toNat) k from (by have hs9 : sgP (τ.2.2 t.toNat) i3 := hi5_3.resolve_left (by omega); have h0 : 0 ≤ i3 := ((sg_iff hgo (by omega)).mp hs9).1.1; have hc9 := cntI_t (q := sgP (τ.2.2 t.toNat)) h0 hs9; rw [hx3]; exact (nthZ_eq (q := (fun j => sgP (τ.2.2 t.toNat) (j : Int))) h0 (by rw [show ((i3.toNat : Nat) : Int) = i3 by omega]; exact hs9) (by omega) (by omega)).symm)) dX5_beginOf_36
      · refine z_iinc (k := 3) hx hb dX5_beginOf_11 hl rfl hx3 (show (Int32.ofInt 1).toInt = (1 : Int) from rfl) (by omega) (by decide) (fun z2 e2 ls hl => ?_)
        have hl : lv_has ls 5 [(3, .int z2), (0, .ref o), (1, .int x), (2, .int y), (4, .int x4)] := hl
        have cut14 : ∀ (n14 : Nat), ∀ (x3 : Int32) (i3 : Int) (_ : x3.toInt = i3) (x4 : Int32) (i4 : Int) (_ : x4.toInt = i4), (120 - i3).toNat < n14 → (0 ≤ i3 ∧ i3 ≤ 120) → (0 ≤ i4 ∧ i4 ≤ k) → (cntZ (fun j => sgP (τ.2.2 t.toNat) (j : Int)) i3.toNat = i4) → ((k + 1 - (i4 + 1)).toNat < n5) → ∀ ls : Array Slot, lv_has ls 5 [(0, .ref o), (1, .int x), (2, .int y), (3, .int x3), (4, .int x4)] → W p l e rmX5_beginOf s m ([.ref o, .int x, .int y] : List Value).toArray below meth c s.heap [] 0 0 (MQ below (zS (fun v => v.toInt = fgZ (τ.2.2 t.toNat) k)) ([.ref o, .int x, .int y] : List Value).toArray s 0 0 zno) (F0 m 14 ls []) := by
          intro n14
          induction n14 with
          | zero =>
            intro x3 i3 hx3 x4 i4 hx4 hmu14 hi14_0 hi14_1 hi14_2 hi14_3 ls hl
            exact absurd hmu14 (Nat.not_lt_zero _)
          | succ n14 ih14 =>
            intro x3 i3 hx3 x4 i4 hx4 hmu14 hi14_0 hi14_1 hi14_2 hi14_3 ls hl
            have h12 : i3 < 120 := by rcases Int.lt_or_eq_of_le hi14_0.2 with q | q; exact q; subst q; have hx9 : cntZ (fun j => sgP (τ.2.2 t.toNat) (j : Int)) 120 = i4 := hi14_2; omega
            refine lv_aload_n hx hb dX5_beginOf_14 rfl (lv_at hl 0 rfl) ?_
            refine lv_iload_n hx hb dX5_beginOf_15 rfl (lv_at hl 1 rfl) ?_
            refine lv_iload_n hx hb dX5_beginOf_16 rfl (lv_at hl 3 rfl) ?_
            refine z_cV (As := [.int x, .int x3]) (rest := []) ⟨hx, hb, hml, hown, hts⟩ (kX5_isBegin l G o μ x t e_x x3 i3 hx3 τ (by first | assumption | omega) (by first | assumption | omega) (by first | assumption | omega) (by first | assumption | omega)) (cwV 2 hts gX5_beginOf_X5_isBegin rfl rfl rfl hyX5_isBegin ⟨Nat.le_of_ble_eq_true rfl, Nat.le_of_ble_eq_true rfl⟩) hK hM hM.1 rfl rfl hl.1 rfl (Nat.le_of_ble_eq_true rfl) dX5_beginOf_17 ⟨Nat.zero_le _, Nat.zero_le _⟩ (fun z3 e3 => ?_)
            have e3 : isB z3 (sgP (τ.2.2 t.toNat) i3) := e3
            refine z_ifb_ne (tgt := 29) hx hb e3 dX5_beginOf_20 (by decide) (fun c_4 => ?_) (fun c_4 => ?_)
            · refine z_iinc (k := 4) hx hb dX5_beginOf_29 hl rfl hx4 (show (Int32.ofInt 1).toInt = (1 : Int) from rfl) (by omega) (by decide) (fun z5 e5 ls hl => ?_)
              have hl : lv_has ls 5 [(4, .int z5), (0, .ref o), (1, .int x), (2, .int y), (3, .int x3)] := hl
              refine lv_goto (tgt := 5) hx hb dX5_beginOf_32 (by decide) ?_
              exact ih5 x3 i3 hx3 z5 (i4 + (1 : Int)) e5 (by omega) (by omega) (by omega) (by rw [cntI_t (q := sgP (τ.2.2 t.toNat)) (by omega) (by assumption)]; omega) (Or.inr (by assumption)) ls (lv_sub hl [1, 2, 3, 4, 0] rfl)
            · refine z_iinc (k := 3) hx hb dX5_beginOf_23 hl rfl hx3 (show (Int32.ofInt 1).toInt = (1 : Int) from rfl) (by omega) (by decide) (fun z6 e6 ls hl => ?_)
              have hl : lv_has ls 5 [(3, .int z6), (0, .ref o), (1, .int x), (2, .int y), (4, .int x4)] := hl
              refine lv_goto (tgt := 14) hx hb dX5_beginOf_26 (by decide) ?_
              exact ih14 z6 (i3 + (1 : Int)) e6 x4 i4 hx4 (by omega) (by omega) (by omega) (by rw [cntI_f (q := sgP (τ.2.2 t.toNat)) (by omega) (by assumption)]; omega) (by omega) ls (lv_sub hl [1, 2, 3, 0, 4] rfl)
        exact cut14 (((120 - (i3 + (1 : Int))).toNat) + 1) z2 (i3 + (1 : Int)) e2 x4 i4 hx4 (Nat.lt_succ_self _) (by omega) (by omega) hi5_2 (by omega) ls (lv_sub hl [1, 2, 3, 0, 4] rfl)
  refine lv_iconst (v := (-1 : Int32)) hx hb dX5_beginOf_0 (by decide) ?_
  refine lv_istore_n hx hb dX5_beginOf_1 rfl hl (by decide) rfl (fun ls hl => ?_)
  have hl : lv_has ls 5 [(3, .int (-1 : Int32)), (0, .ref o), (1, .int x), (2, .int y)] := hl
  refine lv_iconst (v := (0 : Int32)) hx hb dX5_beginOf_2 (by decide) ?_
  refine lv_istore hx hb dX5_beginOf_3 hl (by decide) rfl (fun ls hl => ?_)
  have hl : lv_has ls 5 [(4, .int (0 : Int32)), (3, .int (-1 : Int32)), (0, .ref o), (1, .int x), (2, .int y)] := hl
  exact cut5 (((k + 1 - (0 : Int)).toNat) + 1) (-1 : Int32) (-1 : Int) kI_m1 (0 : Int32) (0 : Int) kI_0 (Nat.lt_succ_self _) (by omega) (by omega) rfl (Or.inl rfl) ls (lv_sub hl [2, 3, 4, 1, 0] rfl)

abbrev rmX5_endOf : Room := { frames := 2, cells := 0, slots := 0, locals := 44 }
theorem iwX5_endOf_5 : ∀ w ∈ wsX50, w ∈ wsX5_endOf := fun _ h => List.mem_cons_of_mem _ (List.mem_append_right _ h)
theorem flX5_endOf_7 : Cond.fieldLink RX5 7 "SiltedFloatsModel" "s" "[I" ∈ wsX5_endOf := by decide +kernel
theorem hyX5_endOf : yX5_endOf.cls = RX5 ∧ yX5_endOf.cls ≠ "java/lang/invoke/MethodHandle" ∧ yX5_endOf.cls ≠ "java/lang/invoke/VarHandle" ∧ (parseMethodDescriptor yX5_endOf.desc).map (fun d => d.parameters.length) = some 2 := by decide +kernel
set_option maxHeartbeats 4000000 in
set_option maxRecDepth 100000 in
theorem kX5_endOf (l : Launch) (G : xG) (o : Nat) (μ : MD) (x : Int32) (t : Int) (e_x : x.toInt = t) (y : Int32) (b : Int) (e_y : y.toInt = b) (τ : SD) (hR : Rs τ μ.2.1) (hok : stOk τ) (ht : 0 ≤ t ∧ t < 3) (hbg : igP (τ.2.2 t.toNat) b) : Met l yX5_endOf wsX5_endOf rmX5_endOf (va_Pc [.ref o, .int x, .int y] (zPre G (fun H => MO G H o μ))) (zS (fun v => v.toInt = hbZ (τ.2.2 t.toNat) b - 1)) 0 0 zno := by
  refine z_ofW (cc := cX5_endOf) (maxL := 4) (ret := some .int) (by decide +kernel) rfl (Nat.le_of_ble_eq_true rfl) ?_
  intro p e s m below meth c hx hb hml hr hts hown hlocks hK hP ls hl
  have hM := hP
  have hown : s.vm.findClass RX5 = some m.cls := hown
  have hl : lv_has ls 4 [(0, .ref o), (1, .int x), (2, .int y)] := hl
  have hn0 := hR.1
  have hok1 := hok.1
  have hgo := hok.2.2 t.toNat (by omega)
  have hb0 := ((ig_iff hgo (by omega)).mp hbg).1
  have cut2 : ∀ (n2 : Nat), ∀ (x3 : Int32) (i3 : Int) (_ : x3.toInt = i3), (τ.1.toInt - i3).toNat < n2 → (b ≤ i3 ∧ i3 < τ.1.toInt) → (hbZ (τ.2.2 t.toNat) b = hbZ (τ.2.2 t.toNat) (i3 + 1)) → ∀ ls : Array Slot, lv_has ls 4 [(0, .ref o), (1, .int x), (2, .int y), (3, .int x3)] → W p l e rmX5_endOf s m ([.ref o, .int x, .int y] : List Value).toArray below meth c s.heap [] 0 0 (MQ below (zS (fun v => v.toInt = hbZ (τ.2.2 t.toNat) b - 1)) ([.ref o, .int x, .int y] : List Value).toArray s 0 0 zno) (F0 m 2 ls []) := by
    intro n2
    induction n2 with
    | zero =>
      intro x3 i3 hx3 hmu2 hi2_0 hi2_1 ls hl
      exact absurd hmu2 (Nat.not_lt_zero _)
    | succ n2 ih2 =>
      intro x3 i3 hx3 hmu2 hi2_0 hi2_1 ls hl
      refine lv_iload_n hx hb dX5_endOf_2 rfl (lv_at hl 3 rfl) ?_
      refine lv_iconst (v := (1 : Int32)) hx hb dX5_endOf_3 (by decide) ?_
      refine z_iadd hx hb hx3 kI_1 dX5_endOf_4 (by omega) (fun z1 e1 => ?_)
      refine lv_aload_n hx hb dX5_endOf_5 rfl (lv_at hl 0 rfl) ?_
      refine z_get hx hb hts iwX5_endOf_5 hown hK hM.1 rfl 0 (by decide) flX5_endOf_7 rfl (v := .ref (o + 1)) rfl dX5_endOf_6 ?_
      refine lv_iconst (v := (0 : Int32)) hx hb dX5_endOf_9 (by decide) ?_
      refine z_iald (f := μ.2.1) hx hb hK 0 hM.2.1 rfl kI_0 (by omega) dX5_endOf_10 ?_
      have hcl2 : (μ.2.1 (0 : Int).toNat).toInt = τ.1.toInt := hn0
      refine z_icmp_ge (tgt := 31) hx hb e1 hcl2 dX5_endOf_11 (by decide) (fun c_3 => ?_) (fun c_3 => ?_)
      · refine lv_iload_n hx hb dX5_endOf_31 rfl (lv_at hl 3 rfl) ?_
        exact z_ri (v := x3) hx hb hr hlocks (show x3.toInt = hbZ (τ.2.2 t.toNat) b - 1 from (by rw [hx3, hi2_1, hbZ_f (fun q => by have hq := (ig_iff hgo (by omega)).mp q.2; first | omega | exact hq.2 (by assumption))]; omega)) dX5_endOf_32
      · refine lv_aload_n hx hb dX5_endOf_14 rfl (lv_at hl 0 rfl) ?_
        refine lv_iload_n hx hb dX5_endOf_15 rfl (lv_at hl 1 rfl) ?_
        refine lv_iload_n hx hb dX5_endOf_16 rfl (lv_at hl 3 rfl) ?_
        refine lv_iconst (v := (1 : Int32)) hx hb dX5_endOf_17 (by decide) ?_
        refine z_iadd hx hb hx3 kI_1 dX5_endOf_18 (by omega) (fun z4 e4 => ?_)
        refine z_cV (As := [.int x, .int z4]) (rest := []) ⟨hx, hb, hml, hown, hts⟩ (kX5_isRead l G o μ x t e_x z4 (i3 + (1 : Int)) e4 τ (by first | assumption | omega) (by first | assumption | omega) (by first | assumption | omega) (by first | assumption | omega)) (cwV 2 hts gX5_endOf_X5_isRead rfl rfl rfl hyX5_isRead ⟨Nat.le_of_ble_eq_true rfl, Nat.le_of_ble_eq_true rfl⟩) hK hM hM.1 rfl rfl hl.1 rfl (Nat.le_of_ble_eq_true rfl) dX5_endOf_19 ⟨Nat.zero_le _, Nat.zero_le _⟩ (fun z5 e5 => ?_)
        have e5 : isB z5 (kindZ (τ.2.2 t.toNat) (i3 + (1 : Int)) = 0) := e5
        refine z_ifb_ne (tgt := 31) hx hb e5 dX5_endOf_22 (by decide) (fun c_6 => ?_) (fun c_6 => ?_)
        · refine lv_iload_n hx hb dX5_endOf_31 rfl (lv_at hl 3 rfl) ?_
          exact z_ri (v := x3) hx hb hr hlocks (show x3.toInt = hbZ (τ.2.2 t.toNat) b - 1 from (by rw [hx3, hi2_1, hbZ_f (fun q => by have hq := (ig_iff hgo (by omega)).mp q.2; first | omega | exact hq.2 (by assumption))]; omega)) dX5_endOf_32
        · refine z_iinc (k := 3) hx hb dX5_endOf_25 hl rfl hx3 (show (Int32.ofInt 1).toInt = (1 : Int) from rfl) (by omega) (by decide) (fun z7 e7 ls hl => ?_)
          have hl : lv_has ls 4 [(3, .int z7), (0, .ref o), (1, .int x), (2, .int y)] := hl
          refine lv_goto (tgt := 2) hx hb dX5_endOf_28 (by decide) ?_
          exact ih2 z7 (i3 + (1 : Int)) e7 (by omega) (by omega) (by rw [hi2_1]; exact hbZ_t (by omega) ((ig_iff hgo (by omega)).mpr ⟨by omega, by assumption⟩)) ls (lv_sub hl [1, 2, 3, 0] rfl)
  refine lv_iload_n hx hb dX5_endOf_0 rfl (lv_at hl 2 rfl) ?_
  refine lv_istore_n hx hb dX5_endOf_1 rfl hl (by decide) rfl (fun ls hl => ?_)
  have hl : lv_has ls 4 [(3, .int y), (0, .ref o), (1, .int x), (2, .int y)] := hl
  exact cut2 (((τ.1.toInt - b).toNat) + 1) y b e_y (Nat.lt_succ_self _) (by omega) (hbZ_t (by omega) hbg) ls (lv_sub hl [1, 2, 3, 0] rfl)

abbrev rmX5_isGap : Room := { frames := 4, cells := 0, slots := 0, locals := 89 }
theorem hyX5_isGap : yX5_isGap.cls = RX5 ∧ yX5_isGap.cls ≠ "java/lang/invoke/MethodHandle" ∧ yX5_isGap.cls ≠ "java/lang/invoke/VarHandle" ∧ (parseMethodDescriptor yX5_isGap.desc).map (fun d => d.parameters.length) = some 2 := by decide +kernel
set_option maxHeartbeats 4000000 in
set_option maxRecDepth 100000 in
theorem kX5_isGap (l : Launch) (G : xG) (o : Nat) (μ : MD) (x : Int32) (t : Int) (e_x : x.toInt = t) (y : Int32) (k : Int) (e_y : y.toInt = k) (τ : SD) (hR : Rs τ μ.2.1) (hok : stOk τ) (ht : 0 ≤ t ∧ t < 3) : Met l yX5_isGap wsX5_isGap rmX5_isGap (va_Pc [.ref o, .int x, .int y] (zPre G (fun H => MO G H o μ))) (zS (fun v => isB v (fgZ (τ.2.2 t.toNat) k ≠ -1))) 0 0 zno := by
  refine z_ofW (cc := cX5_isGap) (maxL := 3) (ret := some .boolean) (by decide +kernel) rfl (Nat.le_of_ble_eq_true rfl) ?_
  intro p e s m below meth c hx hb hml hr hts hown hlocks hK hP ls hl
  have hM := hP
  have hown : s.vm.findClass RX5 = some m.cls := hown
  have hl : lv_has ls 3 [(0, .ref o), (1, .int x), (2, .int y)] := hl
  have hn0 := hR.1
  have hok1 := hok.1
  have hgo := hok.2.2 t.toNat (by omega)
  have hgb : 0 ≤ gapsZ (τ.2.2 t.toNat) ∧ gapsZ (τ.2.2 t.toNat) ≤ 120 := cntZ_b _ 120
  refine lv_iload_n hx hb dX5_isGap_0 rfl (lv_at hl 2 rfl) ?_
  refine lv_iconst (v := (0 : Int32)) hx hb dX5_isGap_1 (by decide) ?_
  refine lv_aload_n hx hb dX5_isGap_2 rfl (lv_at hl 0 rfl) ?_
  refine lv_iload_n hx hb dX5_isGap_3 rfl (lv_at hl 1 rfl) ?_
  refine z_cV (As := [.int x]) (rest := [.int (0 : Int32), .int y]) ⟨hx, hb, hml, hown, hts⟩ (kX5_gapsOf l G o μ x t e_x τ (by first | assumption | omega) (by first | assumption | omega) (by first | assumption | omega)) (cwV 1 hts gX5_isGap_X5_gapsOf rfl rfl rfl hyX5_gapsOf ⟨Nat.le_of_ble_eq_true rfl, Nat.le_of_ble_eq_true rfl⟩) hK hM hM.1 rfl rfl hl.1 rfl (Nat.le_of_ble_eq_true rfl) dX5_isGap_4 ⟨Nat.zero_le _, Nat.zero_le _⟩ (fun z1 e1 => ?_)
  have e1 : z1.toInt = gapsZ (τ.2.2 t.toNat) := e1
  refine lv_iconst (v := (1 : Int32)) hx hb dX5_isGap_7 (by decide) ?_
  refine z_isub hx hb e1 kI_1 dX5_isGap_8 (by omega) (fun z2 e2 => ?_)
  refine z_cS (As := [.int y, .int (0 : Int32), .int z2]) (rest := []) ⟨hx, hb, hml, hown, hts⟩ (kX5_in l G y k e_y (0 : Int32) (0 : Int) kI_0 z2 ((gapsZ (τ.2.2 t.toNat)) - (1 : Int)) e2) (va_cwS 3 hts gX5_isGap_X5_in rfl rfl rfl hyX5_in ⟨Nat.le_of_ble_eq_true rfl, Nat.le_of_ble_eq_true rfl⟩) hK trivial rfl hl.1 rfl (Nat.le_of_ble_eq_true rfl) dX5_isGap_9 ⟨Nat.zero_le _, Nat.zero_le _⟩ (fun z3 e3 => ?_)
  have e3 : isB z3 ((0 : Int) ≤ k ∧ k ≤ ((gapsZ (τ.2.2 t.toNat)) - (1 : Int))) := e3
  exact z_rb (v := z3) hx hb hr hlocks (zi_narB e3) (isB.iff e3 gap_iff) dX5_isGap_12

abbrev rmX5_isInner : Room := { frames := 4, cells := 0, slots := 0, locals := 90 }
theorem iwX5_isInner_5 : ∀ w ∈ wsX50, w ∈ wsX5_isInner := fun _ h => List.mem_cons_of_mem _ (List.mem_append_right _ h)
theorem flX5_isInner_7 : Cond.fieldLink RX5 7 "SiltedFloatsModel" "s" "[I" ∈ wsX5_isInner := by decide +kernel
theorem hyX5_isInner : yX5_isInner.cls = RX5 ∧ yX5_isInner.cls ≠ "java/lang/invoke/MethodHandle" ∧ yX5_isInner.cls ≠ "java/lang/invoke/VarHandle" ∧ (parseMethodDescriptor yX5_isInner.desc).map (fun d => d.parameters.length) = some 2 := by decide +kernel
set_option maxHeartbeats 4000000 in
set_option maxRecDepth 100000 in
theorem kX5_isInner (l : Launch) (G : xG) (o : Nat) (μ : MD) (x : Int32) (t : Int) (e_x : x.toInt = t) (y : Int32) (k : Int) (e_y : y.toInt = k) (τ : SD) (hR : Rs τ μ.2.1) (hok : stOk τ) (ht : 0 ≤ t ∧ t < 3) (hgp : fgZ (τ.2.2 t.toNat) k ≠ -1) : Met l yX5_isInner wsX5_isInner rmX5_isInner (va_Pc [.ref o, .int x, .int y] (zPre G (fun H => MO G H o μ))) (zS (fun v => isB v (inP (τ.2.2 t.toNat) k))) 0 0 zno := by
  refine z_ofW (cc := cX5_isInner) (maxL := 3) (ret := some .boolean) (by decide +kernel) rfl (Nat.le_of_ble_eq_true rfl) ?_
  intro p e s m below meth c hx hb hml hr hts hown hlocks hK hP ls hl
  have hM := hP
  have hown : s.vm.findClass RX5 = some m.cls := hown
  have hl : lv_has ls 3 [(0, .ref o), (1, .int x), (2, .int y)] := hl
  have hn0 := hR.1
  have hok1 := hok.1
  have hgo := hok.2.2 t.toNat (by omega)
  have hgb := gp_b hgo (by omega) hgp
  have hii := in_iff hgo (by omega) hgp
  refine lv_aload_n hx hb dX5_isInner_0 rfl (lv_at hl 0 rfl) ?_
  refine lv_iload_n hx hb dX5_isInner_1 rfl (lv_at hl 1 rfl) ?_
  refine lv_iload_n hx hb dX5_isInner_2 rfl (lv_at hl 2 rfl) ?_
  refine z_cV (As := [.int x, .int y]) (rest := []) ⟨hx, hb, hml, hown, hts⟩ (kX5_beginOf l G o μ x t e_x y k e_y τ (by first | assumption | omega) (by first | assumption | omega) (by first | assumption | omega) (by first | assumption | omega)) (cwV 2 hts gX5_isInner_X5_beginOf rfl rfl rfl hyX5_beginOf ⟨Nat.le_of_ble_eq_true rfl, Nat.le_of_ble_eq_true rfl⟩) hK hM hM.1 rfl rfl hl.1 rfl (Nat.le_of_ble_eq_true rfl) dX5_isInner_3 ⟨Nat.zero_le _, Nat.zero_le _⟩ (fun z1 e1 => ?_)
  have e1 : z1.toInt = fgZ (τ.2.2 t.toNat) k := e1
  refine z_if_le (tgt := 35) hx hb e1 dX5_isInner_6 (by decide) (fun c_2 => ?_) (fun c_2 => ?_)
  · refine lv_iconst (v := (0 : Int32)) hx hb dX5_isInner_35 (by decide) ?_
    exact z_rb (v := (0 : Int32)) hx hb hr hlocks rfl (isB.f rfl (fun q => by have := hii.mp q; omega)) dX5_isInner_36
  · refine lv_aload_n hx hb dX5_isInner_9 rfl (lv_at hl 0 rfl) ?_
    refine lv_iload_n hx hb dX5_isInner_10 rfl (lv_at hl 1 rfl) ?_
    refine lv_aload_n hx hb dX5_isInner_11 rfl (lv_at hl 0 rfl) ?_
    refine lv_iload_n hx hb dX5_isInner_12 rfl (lv_at hl 1 rfl) ?_
    refine lv_iload_n hx hb dX5_isInner_13 rfl (lv_at hl 2 rfl) ?_
    refine z_cV (As := [.int x, .int y]) (rest := [.int x, .ref o]) ⟨hx, hb, hml, hown, hts⟩ (kX5_beginOf l G o μ x t e_x y k e_y τ (by first | assumption | omega) (by first | assumption | omega) (by first | assumption | omega) (by first | assumption | omega)) (cwV 2 hts gX5_isInner_X5_beginOf rfl rfl rfl hyX5_beginOf ⟨Nat.le_of_ble_eq_true rfl, Nat.le_of_ble_eq_true rfl⟩) hK hM hM.1 rfl rfl hl.1 rfl (Nat.le_of_ble_eq_true rfl) dX5_isInner_14 ⟨Nat.zero_le _, Nat.zero_le _⟩ (fun z3 e3 => ?_)
    have e3 : z3.toInt = fgZ (τ.2.2 t.toNat) k := e3
    refine z_cV (As := [.int x, .int z3]) (rest := []) ⟨hx, hb, hml, hown, hts⟩ (kX5_endOf l G o μ x t e_x z3 (fgZ (τ.2.2 t.toNat) k) e3 τ (by first | assumption | omega) (by first | assumption | omega) (by first | assumption | omega) hgb.2.2.1) (cwV 2 hts gX5_isInner_X5_endOf rfl rfl rfl hyX5_endOf ⟨Nat.le_of_ble_eq_true rfl, Nat.le_of_ble_eq_true rfl⟩) hK hM hM.1 rfl rfl hl.1 rfl (Nat.le_of_ble_eq_true rfl) dX5_isInner_17 ⟨Nat.zero_le _, Nat.zero_le _⟩ (fun z4 e4 => ?_)
    have e4 : z4.toInt = hbZ (τ.2.2 t.toNat) (fgZ (τ.2.2 t.toNat) k) - 1 := e4
    refine lv_aload_n hx hb dX5_isInner_20 rfl (lv_at hl 0 rfl) ?_
    refine z_get hx hb hts iwX5_isInner_5 hown hK hM.1 rfl 0 (by decide) flX5_isInner_7 rfl (v := .ref (o + 1)) rfl dX5_isInner_21 ?_
    refine lv_iconst (v := (0 : Int32)) hx hb dX5_isInner_24 (by decide) ?_
    refine z_iald (f := μ.2.1) hx hb hK 0 hM.2.1 rfl kI_0 (by omega) dX5_isInner_25 ?_
    have hcl5 : (μ.2.1 (0 : Int).toNat).toInt = τ.1.toInt := hn0
    refine lv_iconst (v := (1 : Int32)) hx hb dX5_isInner_26 (by decide) ?_
    refine z_isub hx hb hcl5 kI_1 dX5_isInner_27 (by omega) (fun z6 e6 => ?_)
    refine z_icmp_ge (tgt := 35) hx hb e4 e6 dX5_isInner_28 (by decide) (fun c_7 => ?_) (fun c_7 => ?_)
    · refine lv_iconst (v := (0 : Int32)) hx hb dX5_isInner_35 (by decide) ?_
      exact z_rb (v := (0 : Int32)) hx hb hr hlocks rfl (isB.f rfl (fun q => by have := hii.mp q; omega)) dX5_isInner_36
    · refine lv_iconst (v := (1 : Int32)) hx hb dX5_isInner_31 (by decide) ?_
      refine lv_goto (tgt := 36) hx hb dX5_isInner_32 (by decide) ?_
      exact z_rb (v := (1 : Int32)) hx hb hr hlocks rfl (isB.t rfl (hii.mpr (by omega))) dX5_isInner_36

abbrev rmX5_areRead : Room := { frames := 2, cells := 0, slots := 0, locals := 44 }
theorem hyX5_areRead : yX5_areRead.cls = RX5 ∧ yX5_areRead.cls ≠ "java/lang/invoke/MethodHandle" ∧ yX5_areRead.cls ≠ "java/lang/invoke/VarHandle" ∧ (parseMethodDescriptor yX5_areRead.desc).map (fun d => d.parameters.length) = some 2 := by decide +kernel
set_option maxHeartbeats 4000000 in
set_option maxRecDepth 100000 in
theorem kX5_areRead (l : Launch) (G : xG) (o : Nat) (μ : MD) (x : Int32) (t : Int) (e_x : x.toInt = t) (y : Int32) (h : Int) (e_y : y.toInt = h) (τ : SD) (hR : Rs τ μ.2.1) (hok : stOk τ) (ht : 0 ≤ t ∧ t < 3) (hh : -1000 ≤ h ∧ h ≤ 1000) : Met l yX5_areRead wsX5_areRead rmX5_areRead (va_Pc [.ref o, .int x, .int y] (zPre G (fun H => MO G H o μ))) (zS (fun v => isB v (kindZ (τ.2.2 t.toNat) h = 0 ∧ kindZ (τ.2.2 t.toNat) (h - 1) = 0))) 0 0 zno := by
  refine z_ofW (cc := cX5_areRead) (maxL := 3) (ret := some .boolean) (by decide +kernel) rfl (Nat.le_of_ble_eq_true rfl) ?_
  intro p e s m below meth c hx hb hml hr hts hown hlocks hK hP ls hl
  have hM := hP
  have hown : s.vm.findClass RX5 = some m.cls := hown
  have hl : lv_has ls 3 [(0, .ref o), (1, .int x), (2, .int y)] := hl
  have hn0 := hR.1
  have hok1 := hok.1
  have hgo := hok.2.2 t.toNat (by omega)
  refine lv_aload_n hx hb dX5_areRead_0 rfl (lv_at hl 0 rfl) ?_
  refine lv_iload_n hx hb dX5_areRead_1 rfl (lv_at hl 1 rfl) ?_
  refine lv_iload_n hx hb dX5_areRead_2 rfl (lv_at hl 2 rfl) ?_
  refine z_cV (As := [.int x, .int y]) (rest := []) ⟨hx, hb, hml, hown, hts⟩ (kX5_isRead l G o μ x t e_x y h e_y τ (by first | assumption | omega) (by first | assumption | omega) (by first | assumption | omega) (by first | assumption | omega)) (cwV 2 hts gX5_areRead_X5_isRead rfl rfl rfl hyX5_isRead ⟨Nat.le_of_ble_eq_true rfl, Nat.le_of_ble_eq_true rfl⟩) hK hM hM.1 rfl rfl hl.1 rfl (Nat.le_of_ble_eq_true rfl) dX5_areRead_3 ⟨Nat.zero_le _, Nat.zero_le _⟩ (fun z1 e1 => ?_)
  have e1 : isB z1 (kindZ (τ.2.2 t.toNat) h = 0) := e1
  refine z_ifb_eq (tgt := 24) hx hb e1 dX5_areRead_6 (by decide) (fun c_2 => ?_) (fun c_2 => ?_)
  · refine lv_iconst (v := (0 : Int32)) hx hb dX5_areRead_24 (by decide) ?_
    exact z_rb (v := (0 : Int32)) hx hb hr hlocks rfl (isB.f rfl (fun q => by first | exact absurd q.1 (by assumption) | exact absurd q.2 (by assumption))) dX5_areRead_25
  · refine lv_aload_n hx hb dX5_areRead_9 rfl (lv_at hl 0 rfl) ?_
    refine lv_iload_n hx hb dX5_areRead_10 rfl (lv_at hl 1 rfl) ?_
    refine lv_iload_n hx hb dX5_areRead_11 rfl (lv_at hl 2 rfl) ?_
    refine lv_iconst (v := (1 : Int32)) hx hb dX5_areRead_12 (by decide) ?_
    refine z_isub hx hb e_y kI_1 dX5_areRead_13 (by omega) (fun z3 e3 => ?_)
    refine z_cV (As := [.int x, .int z3]) (rest := []) ⟨hx, hb, hml, hown, hts⟩ (kX5_isRead l G o μ x t e_x z3 (h - (1 : Int)) e3 τ (by first | assumption | omega) (by first | assumption | omega) (by first | assumption | omega) (by first | assumption | omega)) (cwV 2 hts gX5_areRead_X5_isRead rfl rfl rfl hyX5_isRead ⟨Nat.le_of_ble_eq_true rfl, Nat.le_of_ble_eq_true rfl⟩) hK hM hM.1 rfl rfl hl.1 rfl (Nat.le_of_ble_eq_true rfl) dX5_areRead_14 ⟨Nat.zero_le _, Nat.zero_le _⟩ (fun z4 e4 => ?_)
    have e4 : isB z4 (kindZ (τ.2.2 t.toNat) (h - (1 : Int)) = 0) := e4
    refine z_ifb_eq (tgt := 24) hx hb e4 dX5_areRead_17 (by decide) (fun c_5 => ?_) (fun c_5 => ?_)
    · refine lv_iconst (v := (0 : Int32)) hx hb dX5_areRead_24 (by decide) ?_
      exact z_rb (v := (0 : Int32)) hx hb hr hlocks rfl (isB.f rfl (fun q => by first | exact absurd q.1 (by assumption) | exact absurd q.2 (by assumption))) dX5_areRead_25
    · refine lv_iconst (v := (1 : Int32)) hx hb dX5_areRead_20 (by decide) ?_
      refine lv_goto (tgt := 25) hx hb dX5_areRead_21 (by decide) ?_
      exact z_rb (v := (1 : Int32)) hx hb hr hlocks rfl (isB.t rfl ⟨by assumption, by assumption⟩) dX5_areRead_25

abbrev rmX5_isThere : Room := { frames := 2, cells := 0, slots := 0, locals := 44 }
theorem iwX5_isThere_5 : ∀ w ∈ wsX50, w ∈ wsX5_isThere := fun _ h => List.mem_cons_of_mem _ (List.mem_append_right _ h)
theorem flX5_isThere_7 : Cond.fieldLink RX5 7 "SiltedFloatsModel" "s" "[I" ∈ wsX5_isThere := by decide +kernel
theorem hyX5_isThere : yX5_isThere.cls = RX5 ∧ yX5_isThere.cls ≠ "java/lang/invoke/MethodHandle" ∧ yX5_isThere.cls ≠ "java/lang/invoke/VarHandle" ∧ (parseMethodDescriptor yX5_isThere.desc).map (fun d => d.parameters.length) = some 2 := by decide +kernel
set_option maxHeartbeats 4000000 in
set_option maxRecDepth 100000 in
theorem kX5_isThere (l : Launch) (G : xG) (o : Nat) (μ : MD) (x : Int32) (t : Int) (e_x : x.toInt = t) (y : Int32) (h : Int) (e_y : y.toInt = h) (τ : SD) (hR : Rs τ μ.2.1) (hok : stOk τ) (ht : 0 ≤ t ∧ t < 3) (hh : -1000 ≤ h ∧ h ≤ 1000) : Met l yX5_isThere wsX5_isThere rmX5_isThere (va_Pc [.ref o, .int x, .int y] (zPre G (fun H => MO G H o μ))) (zS (fun v => isB v (hvP (τ.2.2 t.toNat) h))) 0 0 zno := by
  refine z_ofW (cc := cX5_isThere) (maxL := 3) (ret := some .boolean) (by decide +kernel) rfl (Nat.le_of_ble_eq_true rfl) ?_
  intro p e s m below meth c hx hb hml hr hts hown hlocks hK hP ls hl
  have hM := hP
  have hown : s.vm.findClass RX5 = some m.cls := hown
  have hl : lv_has ls 3 [(0, .ref o), (1, .int x), (2, .int y)] := hl
  have hn0 := hR.1
  have hok1 := hok.1
  have hgo := hok.2.2 t.toNat (by omega)
  refine lv_iload_n hx hb dX5_isThere_0 rfl (lv_at hl 2 rfl) ?_
  refine lv_iconst (v := (0 : Int32)) hx hb dX5_isThere_1 (by decide) ?_
  refine lv_aload_n hx hb dX5_isThere_2 rfl (lv_at hl 0 rfl) ?_
  refine z_get hx hb hts iwX5_isThere_5 hown hK hM.1 rfl 0 (by decide) flX5_isThere_7 rfl (v := .ref (o + 1)) rfl dX5_isThere_3 ?_
  refine lv_iconst (v := (0 : Int32)) hx hb dX5_isThere_6 (by decide) ?_
  refine z_iald (f := μ.2.1) hx hb hK 0 hM.2.1 rfl kI_0 (by omega) dX5_isThere_7 ?_
  have hcl1 : (μ.2.1 (0 : Int).toNat).toInt = τ.1.toInt := hn0
  refine lv_iconst (v := (1 : Int32)) hx hb dX5_isThere_8 (by decide) ?_
  refine z_isub hx hb hcl1 kI_1 dX5_isThere_9 (by omega) (fun z2 e2 => ?_)
  refine z_cS (As := [.int y, .int (0 : Int32), .int z2]) (rest := []) ⟨hx, hb, hml, hown, hts⟩ (kX5_in l G y h e_y (0 : Int32) (0 : Int) kI_0 z2 (τ.1.toInt - (1 : Int)) e2) (va_cwS 3 hts gX5_isThere_X5_in rfl rfl rfl hyX5_in ⟨Nat.le_of_ble_eq_true rfl, Nat.le_of_ble_eq_true rfl⟩) hK trivial rfl hl.1 rfl (Nat.le_of_ble_eq_true rfl) dX5_isThere_10 ⟨Nat.zero_le _, Nat.zero_le _⟩ (fun z3 e3 => ?_)
  have e3 : isB z3 ((0 : Int) ≤ h ∧ h ≤ (τ.1.toInt - (1 : Int))) := e3
  refine z_ifb_eq (tgt := 47) hx hb e3 dX5_isThere_13 (by decide) (fun c_4 => ?_) (fun c_4 => ?_)
  · refine lv_iconst (v := (0 : Int32)) hx hb dX5_isThere_47 (by decide) ?_
    exact z_rb (v := (0 : Int32)) hx hb hr hlocks rfl (isB.f rfl (fun q => by first | exact q.elim (by assumption) (if_n1 (by assumption)) | (have hk9 := kind_out (h := h) hgo (by omega) (by omega); unfold hvP at q; omega))) dX5_isThere_48
  · refine lv_aload_n hx hb dX5_isThere_16 rfl (lv_at hl 0 rfl) ?_
    refine lv_iload_n hx hb dX5_isThere_17 rfl (lv_at hl 1 rfl) ?_
    refine lv_iload_n hx hb dX5_isThere_18 rfl (lv_at hl 2 rfl) ?_
    refine z_cV (As := [.int x, .int y]) (rest := []) ⟨hx, hb, hml, hown, hts⟩ (kX5_isRead l G o μ x t e_x y h e_y τ (by first | assumption | omega) (by first | assumption | omega) (by first | assumption | omega) (by first | assumption | omega)) (cwV 2 hts gX5_isThere_X5_isRead rfl rfl rfl hyX5_isRead ⟨Nat.le_of_ble_eq_true rfl, Nat.le_of_ble_eq_true rfl⟩) hK hM hM.1 rfl rfl hl.1 rfl (Nat.le_of_ble_eq_true rfl) dX5_isThere_19 ⟨Nat.zero_le _, Nat.zero_le _⟩ (fun z5 e5 => ?_)
    have e5 : isB z5 (kindZ (τ.2.2 t.toNat) h = 0) := e5
    refine z_ifb_ne (tgt := 43) hx hb e5 dX5_isThere_22 (by decide) (fun c_6 => ?_) (fun c_6 => ?_)
    · refine lv_iconst (v := (1 : Int32)) hx hb dX5_isThere_43 (by decide) ?_
      refine lv_goto (tgt := 48) hx hb dX5_isThere_44 (by decide) ?_
      exact z_rb (v := (1 : Int32)) hx hb hr hlocks rfl (isB.t rfl (by first | exact Or.inl (by assumption) | exact Or.inr (if_1 (by assumption)))) dX5_isThere_48
    · refine lv_aload_n hx hb dX5_isThere_25 rfl (lv_at hl 0 rfl) ?_
      refine z_get hx hb hts iwX5_isThere_5 hown hK hM.1 rfl 0 (by decide) flX5_isThere_7 rfl (v := .ref (o + 1)) rfl dX5_isThere_26 ?_
      refine lv_iload_n hx hb dX5_isThere_29 rfl (lv_at hl 1 rfl) ?_
      refine lv_sipush (v := (369 : Int32)) hx hb dX5_isThere_30 (by decide) ?_
      refine lv_iload_n hx hb dX5_isThere_33 rfl (lv_at hl 2 rfl) ?_
      refine z_iadd hx hb kI_369 e_y dX5_isThere_34 (by omega) (fun z7 e7 => ?_)
      refine z_cS (As := [.int x, .int z7]) (rest := [.ref (o + 1)]) ⟨hx, hb, hml, hown, hts⟩ (kX5_of l G x t e_x z7 ((369 : Int) + h) e7 (by first | assumption | omega)) (va_cwS 2 hts gX5_isThere_X5_of rfl rfl rfl hyX5_of ⟨Nat.le_of_ble_eq_true rfl, Nat.le_of_ble_eq_true rfl⟩) hK trivial rfl hl.1 rfl (Nat.le_of_ble_eq_true rfl) dX5_isThere_35 ⟨Nat.zero_le _, Nat.zero_le _⟩ (fun z8 e8 => ?_)
      have e8 : z8.toInt = 10 + 731 * t + ((369 : Int) + h) := e8
      refine z_iald (f := μ.2.1) hx hb hK 0 hM.2.1 rfl e8 (by omega) dX5_isThere_38 ?_
      have hcl9 : (μ.2.1 (10 + 731 * t + ((369 : Int) + h)).toNat).toInt = (if kindZ (τ.2.2 t.toNat) h = 2 then (1 : Int) else 0) := (hR.rd ht (by omega)).2.1
      refine lv_iconst (v := (1 : Int32)) hx hb dX5_isThere_39 (by decide) ?_
      refine z_icmp_ne (tgt := 47) hx hb hcl9 kI_1 dX5_isThere_40 (by decide) (fun c_10 => ?_) (fun c_10 => ?_)
      · refine lv_iconst (v := (0 : Int32)) hx hb dX5_isThere_47 (by decide) ?_
        exact z_rb (v := (0 : Int32)) hx hb hr hlocks rfl (isB.f rfl (fun q => by first | exact q.elim (by assumption) (if_n1 (by assumption)) | (have hk9 := kind_out (h := h) hgo (by omega) (by omega); unfold hvP at q; omega))) dX5_isThere_48
      · refine lv_iconst (v := (1 : Int32)) hx hb dX5_isThere_43 (by decide) ?_
        refine lv_goto (tgt := 48) hx hb dX5_isThere_44 (by decide) ?_
        exact z_rb (v := (1 : Int32)) hx hb hr hlocks rfl (isB.t rfl (by first | exact Or.inl (by assumption) | exact Or.inr (if_1 (by assumption)))) dX5_isThere_48

abbrev rmX5_valueOf : Room := { frames := 3, cells := 0, slots := 0, locals := 68 }
theorem iwX5_valueOf_5 : ∀ w ∈ wsX50, w ∈ wsX5_valueOf := fun _ h => List.mem_cons_of_mem _ (List.mem_append_right _ h)
theorem flX5_valueOf_7 : Cond.fieldLink RX5 7 "SiltedFloatsModel" "s" "[I" ∈ wsX5_valueOf := by decide +kernel
theorem hyX5_valueOf : yX5_valueOf.cls = RX5 ∧ yX5_valueOf.cls ≠ "java/lang/invoke/MethodHandle" ∧ yX5_valueOf.cls ≠ "java/lang/invoke/VarHandle" ∧ (parseMethodDescriptor yX5_valueOf.desc).map (fun d => d.parameters.length) = some 2 := by decide +kernel
set_option maxHeartbeats 4000000 in
set_option maxRecDepth 100000 in
theorem kX5_valueOf (l : Launch) (G : xG) (o : Nat) (μ : MD) (x : Int32) (t : Int) (e_x : x.toInt = t) (y : Int32) (h : Int) (e_y : y.toInt = h) (τ : SD) (hR : Rs τ μ.2.1) (hok : stOk τ) (ht : 0 ≤ t ∧ t < 3) (hh : 0 ≤ h ∧ h < τ.1.toInt) (hv : hvP (τ.2.2 t.toNat) h) : Met l yX5_valueOf wsX5_valueOf rmX5_valueOf (va_Pc [.ref o, .int x, .int y] (zPre G (fun H => MO G H o μ))) (zS (fun v => v.toInt = valZ (τ.2.2 t.toNat) h)) 0 0 zno := by
  refine z_ofW (cc := cX5_valueOf) (maxL := 3) (ret := some .int) (by decide +kernel) rfl (Nat.le_of_ble_eq_true rfl) ?_
  intro p e s m below meth c hx hb hml hr hts hown hlocks hK hP ls hl
  have hM := hP
  have hown : s.vm.findClass RX5 = some m.cls := hown
  have hl : lv_has ls 3 [(0, .ref o), (1, .int x), (2, .int y)] := hl
  have hn0 := hR.1
  have hok1 := hok.1
  have hgo := hok.2.2 t.toNat (by omega)
  refine lv_aload_n hx hb dX5_valueOf_0 rfl (lv_at hl 0 rfl) ?_
  refine lv_iload_n hx hb dX5_valueOf_1 rfl (lv_at hl 1 rfl) ?_
  refine lv_iload_n hx hb dX5_valueOf_2 rfl (lv_at hl 2 rfl) ?_
  refine z_cV (As := [.int x, .int y]) (rest := []) ⟨hx, hb, hml, hown, hts⟩ (kX5_isRead l G o μ x t e_x y h e_y τ (by first | assumption | omega) (by first | assumption | omega) (by first | assumption | omega) (by first | assumption | omega)) (cwV 2 hts gX5_valueOf_X5_isRead rfl rfl rfl hyX5_isRead ⟨Nat.le_of_ble_eq_true rfl, Nat.le_of_ble_eq_true rfl⟩) hK hM hM.1 rfl rfl hl.1 rfl (Nat.le_of_ble_eq_true rfl) dX5_valueOf_3 ⟨Nat.zero_le _, Nat.zero_le _⟩ (fun z1 e1 => ?_)
  have e1 : isB z1 (kindZ (τ.2.2 t.toNat) h = 0) := e1
  refine z_ifb_eq (tgt := 18) hx hb e1 dX5_valueOf_6 (by decide) (fun c_2 => ?_) (fun c_2 => ?_)
  · refine lv_aload_n hx hb dX5_valueOf_18 rfl (lv_at hl 0 rfl) ?_
    refine z_get hx hb hts iwX5_valueOf_5 hown hK hM.1 rfl 0 (by decide) flX5_valueOf_7 rfl (v := .ref (o + 1)) rfl dX5_valueOf_19 ?_
    refine lv_iload_n hx hb dX5_valueOf_22 rfl (lv_at hl 1 rfl) ?_
    refine lv_sipush (v := (249 : Int32)) hx hb dX5_valueOf_23 (by decide) ?_
    refine lv_iload_n hx hb dX5_valueOf_26 rfl (lv_at hl 2 rfl) ?_
    refine z_iadd hx hb kI_249 e_y dX5_valueOf_27 (by omega) (fun z3 e3 => ?_)
    refine z_cS (As := [.int x, .int z3]) (rest := [.ref (o + 1)]) ⟨hx, hb, hml, hown, hts⟩ (kX5_of l G x t e_x z3 ((249 : Int) + h) e3 (by first | assumption | omega)) (va_cwS 2 hts gX5_valueOf_X5_of rfl rfl rfl hyX5_of ⟨Nat.le_of_ble_eq_true rfl, Nat.le_of_ble_eq_true rfl⟩) hK trivial rfl hl.1 rfl (Nat.le_of_ble_eq_true rfl) dX5_valueOf_28 ⟨Nat.zero_le _, Nat.zero_le _⟩ (fun z4 e4 => ?_)
    have e4 : z4.toInt = 10 + 731 * t + ((249 : Int) + h) := e4
    refine z_iald (f := μ.2.1) hx hb hK 0 hM.2.1 rfl e4 (by omega) dX5_valueOf_31 ?_
    have hcl5 : (μ.2.1 (10 + 731 * t + ((249 : Int) + h)).toNat).toInt = readZ (τ.2.2 t.toNat) h := ((hR.rd ht (by omega)).2.2.2 (hv.resolve_left (by assumption)))
    exact z_ri (v := μ.2.1 (10 + 731 * t + ((249 : Int) + h)).toNat) hx hb hr hlocks (show (μ.2.1 (10 + 731 * t + ((249 : Int) + h)).toNat).toInt = valZ (τ.2.2 t.toNat) h from (by rw [hcl5]; unfold valZ; first | (rw [if_neg (by omega)]; done) | (rw [if_pos (by omega)]; done) | (have := hv.resolve_left (by assumption); rw [if_pos (by omega)]) | (rw [if_neg (by omega)]))) dX5_valueOf_32
  · refine lv_aload_n hx hb dX5_valueOf_9 rfl (lv_at hl 0 rfl) ?_
    refine lv_iload_n hx hb dX5_valueOf_10 rfl (lv_at hl 1 rfl) ?_
    refine lv_iload_n hx hb dX5_valueOf_11 rfl (lv_at hl 2 rfl) ?_
    refine z_cV (As := [.int x, .int y]) (rest := []) ⟨hx, hb, hml, hown, hts⟩ (kX5_corrected l G o μ x t e_x y h e_y (τ.2.2 t.toNat) τ.1.toInt (hR.g ht) hgo (by first | assumption | omega) ht (by first | assumption | omega) (by first | assumption | omega)) (cwV 2 hts gX5_valueOf_X5_corrected rfl rfl rfl hyX5_corrected ⟨Nat.le_of_ble_eq_true rfl, Nat.le_of_ble_eq_true rfl⟩) hK hM hM.1 rfl rfl hl.1 rfl (Nat.le_of_ble_eq_true rfl) dX5_valueOf_12 ⟨Nat.zero_le _, Nat.zero_le _⟩ (fun z6 e6 => ?_)
    have e6 : z6.toInt = cordZ (τ.2.2 t.toNat) h := e6
    refine lv_goto (tgt := 32) hx hb dX5_valueOf_15 (by decide) ?_
    exact z_ri (v := z6) hx hb hr hlocks (show z6.toInt = valZ (τ.2.2 t.toNat) h from (by rw [e6]; unfold valZ; first | (rw [if_neg (by omega)]; done) | (rw [if_pos (by omega)]; done) | (have := hv.resolve_left (by assumption); rw [if_pos (by omega)]) | (rw [if_neg (by omega)]))) dX5_valueOf_32

abbrev rmX5_canMend : Room := { frames := 4, cells := 0, slots := 0, locals := 90 }
theorem hyX5_canMend : yX5_canMend.cls = RX5 ∧ yX5_canMend.cls ≠ "java/lang/invoke/MethodHandle" ∧ yX5_canMend.cls ≠ "java/lang/invoke/VarHandle" ∧ (parseMethodDescriptor yX5_canMend.desc).map (fun d => d.parameters.length) = some 4 := by decide +kernel
set_option maxHeartbeats 4000000 in
set_option maxRecDepth 100000 in
theorem kX5_canMend (l : Launch) (G : xG) (o : Nat) (μ : MD) (x : Int32) (t : Int) (e_x : x.toInt = t) (y : Int32) (k : Int) (e_y : y.toInt = k) (xu : Int32) (u : Int) (e_xu : xu.toInt = u) (xf : Int32) (f : Int) (e_xf : xf.toInt = f) (τ : SD) (hR : Rs τ μ.2.1) (hok : stOk τ) (ht : 0 ≤ t ∧ t < 3) (hgp : fgZ (τ.2.2 t.toNat) k ≠ -1) (ho : 0 ≤ u ∧ u < 3) (hf : -12 ≤ f ∧ f ≤ 12) : Met l yX5_canMend wsX5_canMend rmX5_canMend (va_Pc [.ref o, .int x, .int y, .int xu, .int xf] (zPre G (fun H => MO G H o μ))) (zS (fun v => isB v (rdP (τ.2.2 u.toNat) (ahZ (τ.2.2 t.toNat) k + f) (bhZ (τ.2.2 t.toNat) k + f)))) 0 0 zno := by
  refine z_ofW (cc := cX5_canMend) (maxL := 9) (ret := some .boolean) (by decide +kernel) rfl (Nat.le_of_ble_eq_true rfl) ?_
  intro p e s m below meth c hx hb hml hr hts hown hlocks hK hP ls hl
  have hM := hP
  have hown : s.vm.findClass RX5 = some m.cls := hown
  have hl : lv_has ls 9 [(0, .ref o), (1, .int x), (2, .int y), (3, .int xu), (4, .int xf)] := hl
  have hn0 := hR.1
  have hok1 := hok.1
  have hgo := hok.2.2 t.toNat (by omega)
  have hgb := gp_b hgo (by omega) hgp
  have hgo2 := hok.2.2 u.toNat (by omega)
  refine lv_aload_n hx hb dX5_canMend_0 rfl (lv_at hl 0 rfl) ?_
  refine lv_iload_n hx hb dX5_canMend_1 rfl (lv_at hl 1 rfl) ?_
  refine lv_iload_n hx hb dX5_canMend_2 rfl (lv_at hl 2 rfl) ?_
  refine z_cV (As := [.int x, .int y]) (rest := []) ⟨hx, hb, hml, hown, hts⟩ (kX5_beginOf l G o μ x t e_x y k e_y τ (by first | assumption | omega) (by first | assumption | omega) (by first | assumption | omega) (by first | assumption | omega)) (cwV 2 hts gX5_canMend_X5_beginOf rfl rfl rfl hyX5_beginOf ⟨Nat.le_of_ble_eq_true rfl, Nat.le_of_ble_eq_true rfl⟩) hK hM hM.1 rfl rfl hl.1 rfl (Nat.le_of_ble_eq_true rfl) dX5_canMend_3 ⟨Nat.zero_le _, Nat.zero_le _⟩ (fun z1 e1 => ?_)
  have e1 : z1.toInt = fgZ (τ.2.2 t.toNat) k := e1
  refine lv_istore hx hb dX5_canMend_6 hl (by decide) rfl (fun ls hl => ?_)
  have hl : lv_has ls 9 [(5, .int z1), (0, .ref o), (1, .int x), (2, .int y), (3, .int xu), (4, .int xf)] := hl
  refine lv_aload_n hx hb dX5_canMend_8 rfl (lv_at hl 1 rfl) ?_
  refine lv_iload_n hx hb dX5_canMend_9 rfl (lv_at hl 2 rfl) ?_
  refine lv_iload hx hb dX5_canMend_10 (lv_at hl 0 rfl) ?_
  refine z_cV (As := [.int x, .int z1]) (rest := []) ⟨hx, hb, hml, hown, hts⟩ (kX5_endOf l G o μ x t e_x z1 (fgZ (τ.2.2 t.toNat) k) e1 τ (by first | assumption | omega) (by first | assumption | omega) (by first | assumption | omega) hgb.2.2.1) (cwV 2 hts gX5_canMend_X5_endOf rfl rfl rfl hyX5_endOf ⟨Nat.le_of_ble_eq_true rfl, Nat.le_of_ble_eq_true rfl⟩) hK hM hM.1 rfl rfl hl.1 rfl (Nat.le_of_ble_eq_true rfl) dX5_canMend_12 ⟨Nat.zero_le _, Nat.zero_le _⟩ (fun z2 e2 => ?_)
  have e2 : z2.toInt = hbZ (τ.2.2 t.toNat) (fgZ (τ.2.2 t.toNat) k) - 1 := e2
  refine lv_istore hx hb dX5_canMend_15 hl (by decide) rfl (fun ls hl => ?_)
  have hl : lv_has ls 9 [(6, .int z2), (5, .int z1), (0, .ref o), (1, .int x), (2, .int y), (3, .int xu), (4, .int xf)] := hl
  refine lv_iconst (v := (1 : Int32)) hx hb dX5_canMend_17 (by decide) ?_
  refine lv_istore hx hb dX5_canMend_18 hl (by decide) rfl (fun ls hl => ?_)
  have hl : lv_has ls 9 [(7, .int (1 : Int32)), (6, .int z2), (5, .int z1), (0, .ref o), (1, .int x), (2, .int y), (3, .int xu), (4, .int xf)] := hl
  refine lv_iload hx hb dX5_canMend_20 (lv_at hl 2 rfl) ?_
  refine lv_iconst (v := (1 : Int32)) hx hb dX5_canMend_22 (by decide) ?_
  refine z_isub hx hb e1 kI_1 dX5_canMend_23 (by omega) (fun z3 e3 => ?_)
  refine lv_istore hx hb dX5_canMend_24 hl (by decide) rfl (fun ls hl => ?_)
  have hl : lv_has ls 9 [(8, .int z3), (7, .int (1 : Int32)), (6, .int z2), (5, .int z1), (0, .ref o), (1, .int x), (2, .int y), (3, .int xu), (4, .int xf)] := hl
  have cut26 : ∀ (n26 : Nat), ∀ (x7 : Int32) (i7 : Int) (_ : x7.toInt = i7) (x8 : Int32) (i8 : Int) (_ : x8.toInt = i8), (hbZ (τ.2.2 t.toNat) (fgZ (τ.2.2 t.toNat) k) + 2 - i8).toNat < n26 → (fgZ (τ.2.2 t.toNat) k - 1 ≤ i8 ∧ i8 ≤ hbZ (τ.2.2 t.toNat) (fgZ (τ.2.2 t.toNat) k) + 1) → ((i7 = 1 ∧ ∀ j : Int, fgZ (τ.2.2 t.toNat) k - 1 + f ≤ j → j < i8 + f → kindZ (τ.2.2 u.toNat) j = 0) ∨ (i7 = 0 ∧ ¬ rdP (τ.2.2 u.toNat) (fgZ (τ.2.2 t.toNat) k - 1 + f) (hbZ (τ.2.2 t.toNat) (fgZ (τ.2.2 t.toNat) k) + f))) → ∀ ls : Array Slot, lv_has ls 9 [(0, .ref o), (1, .int x), (2, .int y), (3, .int xu), (4, .int xf), (5, .int z1), (6, .int z2), (7, .int x7), (8, .int x8)] → W p l e rmX5_canMend s m ([.ref o, .int x, .int y, .int xu, .int xf] : List Value).toArray below meth c s.heap [] 0 0 (MQ below (zS (fun v => isB v (rdP (τ.2.2 u.toNat) (ahZ (τ.2.2 t.toNat) k + f) (bhZ (τ.2.2 t.toNat) k + f)))) ([.ref o, .int x, .int y, .int xu, .int xf] : List Value).toArray s 0 0 zno) (F0 m 26 ls []) := by
    intro n26
    induction n26 with
    | zero =>
      intro x7 i7 hx7 x8 i8 hx8 hmu26 hi26_0 hi26_1 ls hl
      exact absurd hmu26 (Nat.not_lt_zero _)
    | succ n26 ih26 =>
      intro x7 i7 hx7 x8 i8 hx8 hmu26 hi26_0 hi26_1 ls hl
      refine lv_iload hx hb dX5_canMend_26 (lv_at hl 8 rfl) ?_
      refine lv_iload hx hb dX5_canMend_28 (lv_at hl 6 rfl) ?_
      refine lv_iconst (v := (1 : Int32)) hx hb dX5_canMend_30 (by decide) ?_
      refine z_iadd hx hb e2 kI_1 dX5_canMend_31 (by omega) (fun z4 e4 => ?_)
      refine z_icmp_gt (tgt := 66) hx hb hx8 e4 dX5_canMend_32 (by decide) (fun c_5 => ?_) (fun c_5 => ?_)
      · refine lv_iload hx hb dX5_canMend_66 (lv_at hl 7 rfl) ?_
        have hB9 : isB x7 (rdP (τ.2.2 u.toNat) (ahZ (τ.2.2 t.toNat) k + f) (bhZ (τ.2.2 t.toNat) k + f)) := (hi26_1.elim (fun q => isB.t (hx7.trans q.1) (fun j a b => by unfold ahZ at a; unfold bhZ at b; exact q.2 j (by omega) (by omega))) (fun q => isB.f (hx7.trans q.1) q.2))
        exact z_rb (v := x7) hx hb hr hlocks (zi_narB hB9) hB9 dX5_canMend_68
      · refine lv_iload hx hb dX5_canMend_35 (lv_at hl 7 rfl) ?_
        refine z_if_eq (tgt := 57) hx hb hx7 dX5_canMend_37 (by decide) (fun c_6 => ?_) (fun c_6 => ?_)
        · refine lv_iconst (v := (0 : Int32)) hx hb dX5_canMend_57 (by decide) ?_
          refine lv_istore hx hb dX5_canMend_58 hl (by decide) rfl (fun ls hl => ?_)
          have hl : lv_has ls 9 [(7, .int (0 : Int32)), (0, .ref o), (1, .int x), (2, .int y), (3, .int xu), (4, .int xf), (5, .int z1), (6, .int z2), (8, .int x8)] := hl
          refine z_iinc (k := 8) hx hb dX5_canMend_60 hl rfl hx8 (show (Int32.ofInt 1).toInt = (1 : Int) from rfl) (by omega) (by decide) (fun z7 e7 ls hl => ?_)
          have hl : lv_has ls 9 [(8, .int z7), (7, .int (0 : Int32)), (0, .ref o), (1, .int x), (2, .int y), (3, .int xu), (4, .int xf), (5, .int z1), (6, .int z2)] := hl
          refine lv_goto (tgt := 26) hx hb dX5_canMend_63 (by decide) ?_
          exact ih26 (0 : Int32) (0 : Int) kI_0 z7 (i8 + (1 : Int)) e7 (by omega) (by omega) (Or.inr (hi26_1.elim (fun q => by omega) (fun q => ⟨rfl, q.2⟩))) ls (lv_sub hl [2, 3, 4, 5, 6, 7, 8, 1, 0] rfl)
        · refine lv_aload_n hx hb dX5_canMend_40 rfl (lv_at hl 0 rfl) ?_
          refine lv_iload_n hx hb dX5_canMend_41 rfl (lv_at hl 3 rfl) ?_
          refine lv_iload hx hb dX5_canMend_42 (lv_at hl 8 rfl) ?_
          refine lv_iload hx hb dX5_canMend_44 (lv_at hl 4 rfl) ?_
          refine z_iadd hx hb hx8 e_xf dX5_canMend_46 (by omega) (fun z8 e8 => ?_)
          refine z_cV (As := [.int xu, .int z8]) (rest := []) ⟨hx, hb, hml, hown, hts⟩ (kX5_isRead l G o μ xu u e_xu z8 (i8 + f) e8 τ (by first | assumption | omega) (by first | assumption | omega) ho (by first | assumption | omega)) (cwV 2 hts gX5_canMend_X5_isRead rfl rfl rfl hyX5_isRead ⟨Nat.le_of_ble_eq_true rfl, Nat.le_of_ble_eq_true rfl⟩) hK hM hM.1 rfl rfl hl.1 rfl (Nat.le_of_ble_eq_true rfl) dX5_canMend_47 ⟨Nat.zero_le _, Nat.zero_le _⟩ (fun z9 e9 => ?_)
          have e9 : isB z9 (kindZ (τ.2.2 u.toNat) (i8 + f) = 0) := e9
          refine z_ifb_eq (tgt := 57) hx hb e9 dX5_canMend_50 (by decide) (fun c_10 => ?_) (fun c_10 => ?_)
          · refine lv_iconst (v := (0 : Int32)) hx hb dX5_canMend_57 (by decide) ?_
            refine lv_istore hx hb dX5_canMend_58 hl (by decide) rfl (fun ls hl => ?_)
            have hl : lv_has ls 9 [(7, .int (0 : Int32)), (0, .ref o), (1, .int x), (2, .int y), (3, .int xu), (4, .int xf), (5, .int z1), (6, .int z2), (8, .int x8)] := hl
            refine z_iinc (k := 8) hx hb dX5_canMend_60 hl rfl hx8 (show (Int32.ofInt 1).toInt = (1 : Int) from rfl) (by omega) (by decide) (fun z11 e11 ls hl => ?_)
            have hl : lv_has ls 9 [(8, .int z11), (7, .int (0 : Int32)), (0, .ref o), (1, .int x), (2, .int y), (3, .int xu), (4, .int xf), (5, .int z1), (6, .int z2)] := hl
            refine lv_goto (tgt := 26) hx hb dX5_canMend_63 (by decide) ?_
            exact ih26 (0 : Int32) (0 : Int) kI_0 z11 (i8 + (1 : Int)) e11 (by omega) (by omega) (Or.inr ⟨rfl, fun q => absurd (q (i8 + f) (by omega) (by omega)) (by assumption)⟩) ls (lv_sub hl [2, 3, 4, 5, 6, 7, 8, 1, 0] rfl)
          · refine lv_iconst (v := (1 : Int32)) hx hb dX5_canMend_53 (by decide) ?_
            refine lv_goto (tgt := 58) hx hb dX5_canMend_54 (by decide) ?_
            refine lv_istore hx hb dX5_canMend_58 hl (by decide) rfl (fun ls hl => ?_)
            have hl : lv_has ls 9 [(7, .int (1 : Int32)), (0, .ref o), (1, .int x), (2, .int y), (3, .int xu), (4, .int xf), (5, .int z1), (6, .int z2), (8, .int x8)] := hl
            refine z_iinc (k := 8) hx hb dX5_canMend_60 hl rfl hx8 (show (Int32.ofInt 1).toInt = (1 : Int) from rfl) (by omega) (by decide) (fun z12 e12 ls hl => ?_)
            have hl : lv_has ls 9 [(8, .int z12), (7, .int (1 : Int32)), (0, .ref o), (1, .int x), (2, .int y), (3, .int xu), (4, .int xf), (5, .int z1), (6, .int z2)] := hl
            refine lv_goto (tgt := 26) hx hb dX5_canMend_63 (by decide) ?_
            exact ih26 (1 : Int32) (1 : Int) kI_1 z12 (i8 + (1 : Int)) e12 (by omega) (by omega) (Or.inl ⟨rfl, fun j a b => by have h9 := (hi26_1.resolve_right (fun q => by omega)).2; rcases Int.lt_or_eq_of_le (show j ≤ i8 + f by omega) with q | q; exact h9 j a q; rw [q]; assumption⟩) ls (lv_sub hl [2, 3, 4, 5, 6, 7, 8, 1, 0] rfl)
  exact cut26 (((hbZ (τ.2.2 t.toNat) (fgZ (τ.2.2 t.toNat) k) + 2 - ((fgZ (τ.2.2 t.toNat) k) - (1 : Int))).toNat) + 1) (1 : Int32) (1 : Int) kI_1 z3 ((fgZ (τ.2.2 t.toNat) k) - (1 : Int)) e3 (Nat.lt_succ_self _) (by omega) (Or.inl ⟨rfl, fun j a b => by omega⟩) ls (lv_sub hl [4, 5, 6, 7, 8, 3, 2, 1, 0] rfl)

abbrev rmX5_misfitOf : Room := { frames := 4, cells := 0, slots := 0, locals := 90 }
theorem hyX5_misfitOf : yX5_misfitOf.cls = RX5 ∧ yX5_misfitOf.cls ≠ "java/lang/invoke/MethodHandle" ∧ yX5_misfitOf.cls ≠ "java/lang/invoke/VarHandle" ∧ (parseMethodDescriptor yX5_misfitOf.desc).map (fun d => d.parameters.length) = some 4 := by decide +kernel
set_option maxHeartbeats 4000000 in
set_option maxRecDepth 100000 in
theorem kX5_misfitOf (l : Launch) (G : xG) (o : Nat) (μ : MD) (x : Int32) (t : Int) (e_x : x.toInt = t) (y : Int32) (k : Int) (e_y : y.toInt = k) (xu : Int32) (u : Int) (e_xu : xu.toInt = u) (xf : Int32) (f : Int) (e_xf : xf.toInt = f) (τ : SD) (hR : Rs τ μ.2.1) (hok : stOk τ) (ht : 0 ≤ t ∧ t < 3) (hgp : fgZ (τ.2.2 t.toNat) k ≠ -1) (ho : 0 ≤ u ∧ u < 3) (hf : -12 ≤ f ∧ f ≤ 12) : Met l yX5_misfitOf wsX5_misfitOf rmX5_misfitOf (va_Pc [.ref o, .int x, .int y, .int xu, .int xf] (zPre G (fun H => MO G H o μ))) (zS (fun v => v.toInt = mfZ (τ.2.2 t.toNat) (τ.2.2 u.toNat) (ahZ (τ.2.2 t.toNat) k) (bhZ (τ.2.2 t.toNat) k) f)) 0 0 zno := by
  refine z_ofW (cc := cX5_misfitOf) (maxL := 10) (ret := some .int) (by decide +kernel) rfl (Nat.le_of_ble_eq_true rfl) ?_
  intro p e s m below meth c hx hb hml hr hts hown hlocks hK hP ls hl
  have hM := hP
  have hown : s.vm.findClass RX5 = some m.cls := hown
  have hl : lv_has ls 10 [(0, .ref o), (1, .int x), (2, .int y), (3, .int xu), (4, .int xf)] := hl
  have hn0 := hR.1
  have hok1 := hok.1
  have hgo := hok.2.2 t.toNat (by omega)
  have hgb := gp_b hgo (by omega) hgp
  have hgo2 := hok.2.2 u.toNat (by omega)
  have hsm := hgo.small
  have hso := hgo2.small
  refine lv_aload_n hx hb dX5_misfitOf_0 rfl (lv_at hl 0 rfl) ?_
  refine lv_iload_n hx hb dX5_misfitOf_1 rfl (lv_at hl 1 rfl) ?_
  refine lv_iload_n hx hb dX5_misfitOf_2 rfl (lv_at hl 2 rfl) ?_
  refine z_cV (As := [.int x, .int y]) (rest := []) ⟨hx, hb, hml, hown, hts⟩ (kX5_beginOf l G o μ x t e_x y k e_y τ (by first | assumption | omega) (by first | assumption | omega) (by first | assumption | omega) (by first | assumption | omega)) (cwV 2 hts gX5_misfitOf_X5_beginOf rfl rfl rfl hyX5_beginOf ⟨Nat.le_of_ble_eq_true rfl, Nat.le_of_ble_eq_true rfl⟩) hK hM hM.1 rfl rfl hl.1 rfl (Nat.le_of_ble_eq_true rfl) dX5_misfitOf_3 ⟨Nat.zero_le _, Nat.zero_le _⟩ (fun z1 e1 => ?_)
  have e1 : z1.toInt = fgZ (τ.2.2 t.toNat) k := e1
  refine lv_iconst (v := (1 : Int32)) hx hb dX5_misfitOf_6 (by decide) ?_
  refine z_isub hx hb e1 kI_1 dX5_misfitOf_7 (by omega) (fun z2 e2 => ?_)
  refine lv_istore hx hb dX5_misfitOf_8 hl (by decide) rfl (fun ls hl => ?_)
  have hl : lv_has ls 10 [(5, .int z2), (0, .ref o), (1, .int x), (2, .int y), (3, .int xu), (4, .int xf)] := hl
  refine lv_aload_n hx hb dX5_misfitOf_10 rfl (lv_at hl 1 rfl) ?_
  refine lv_iload_n hx hb dX5_misfitOf_11 rfl (lv_at hl 2 rfl) ?_
  refine lv_iload hx hb dX5_misfitOf_12 (lv_at hl 0 rfl) ?_
  refine lv_iconst (v := (1 : Int32)) hx hb dX5_misfitOf_14 (by decide) ?_
  refine z_iadd hx hb e2 kI_1 dX5_misfitOf_15 (by omega) (fun z3 e3 => ?_)
  refine z_cV (As := [.int x, .int z3]) (rest := []) ⟨hx, hb, hml, hown, hts⟩ (kX5_endOf l G o μ x t e_x z3 (((fgZ (τ.2.2 t.toNat) k) - (1 : Int)) + (1 : Int)) e3 τ (by first | assumption | omega) (by first | assumption | omega) (by first | assumption | omega) (by rw [show fgZ (τ.2.2 t.toNat) k - 1 + 1 = fgZ (τ.2.2 t.toNat) k by omega]; exact hgb.2.2.1)) (cwV 2 hts gX5_misfitOf_X5_endOf rfl rfl rfl hyX5_endOf ⟨Nat.le_of_ble_eq_true rfl, Nat.le_of_ble_eq_true rfl⟩) hK hM hM.1 rfl rfl hl.1 rfl (Nat.le_of_ble_eq_true rfl) dX5_misfitOf_16 ⟨Nat.zero_le _, Nat.zero_le _⟩ (fun z4 e4 => ?_)
  have e4 : z4.toInt = hbZ (τ.2.2 t.toNat) (((fgZ (τ.2.2 t.toNat) k) - (1 : Int)) + (1 : Int)) - 1 := e4
  have e4 : z4.toInt = hbZ (τ.2.2 t.toNat) (fgZ (τ.2.2 t.toNat) k) - 1 := by rw [e4]; congr 2; omega
  refine lv_iconst (v := (1 : Int32)) hx hb dX5_misfitOf_19 (by decide) ?_
  refine z_iadd hx hb e4 kI_1 dX5_misfitOf_20 (by omega) (fun z5 e5 => ?_)
  refine lv_istore hx hb dX5_misfitOf_21 hl (by decide) rfl (fun ls hl => ?_)
  have hl : lv_has ls 10 [(6, .int z5), (5, .int z2), (0, .ref o), (1, .int x), (2, .int y), (3, .int xu), (4, .int xf)] := hl
  refine lv_iconst (v := (0 : Int32)) hx hb dX5_misfitOf_23 (by decide) ?_
  refine lv_istore hx hb dX5_misfitOf_24 hl (by decide) rfl (fun ls hl => ?_)
  have hl : lv_has ls 10 [(7, .int (0 : Int32)), (6, .int z5), (5, .int z2), (0, .ref o), (1, .int x), (2, .int y), (3, .int xu), (4, .int xf)] := hl
  refine lv_iload hx hb dX5_misfitOf_26 (lv_at hl 2 rfl) ?_
  refine lv_bipush (v := (11 : Int32)) hx hb dX5_misfitOf_28 (by decide) ?_
  refine z_isub hx hb e2 kI_11 dX5_misfitOf_30 (by omega) (fun z6 e6 => ?_)
  refine lv_istore hx hb dX5_misfitOf_31 hl (by decide) rfl (fun ls hl => ?_)
  have hl : lv_has ls 10 [(8, .int z6), (7, .int (0 : Int32)), (6, .int z5), (5, .int z2), (0, .ref o), (1, .int x), (2, .int y), (3, .int xu), (4, .int xf)] := hl
  have cut33 : ∀ (n33 : Nat), ∀ (x7 : Int32) (i7 : Int) (_ : x7.toInt = i7) (x8 : Int32) (i8 : Int) (_ : x8.toInt = i8), (hbZ (τ.2.2 t.toNat) (fgZ (τ.2.2 t.toNat) k) + 13 - i8).toNat < n33 → (fgZ (τ.2.2 t.toNat) k - 1 - 11 ≤ i8 ∧ i8 ≤ hbZ (τ.2.2 t.toNat) (fgZ (τ.2.2 t.toNat) k) + 13) → (i7 = sumZ (mgT (τ.2.2 t.toNat) (τ.2.2 u.toNat) (fgZ (τ.2.2 t.toNat) k - 1) (hbZ (τ.2.2 t.toNat) (fgZ (τ.2.2 t.toNat) k)) f) (fgZ (τ.2.2 t.toNat) k - 1 - 11) (i8 - (fgZ (τ.2.2 t.toNat) k - 1 - 11)).toNat) → (0 ≤ i7 ∧ i7 ≤ 4004000 * (i8 - (fgZ (τ.2.2 t.toNat) k - 1 - 11))) → ∀ ls : Array Slot, lv_has ls 10 [(0, .ref o), (1, .int x), (2, .int y), (3, .int xu), (4, .int xf), (5, .int z2), (6, .int z5), (7, .int x7), (8, .int x8)] → W p l e rmX5_misfitOf s m ([.ref o, .int x, .int y, .int xu, .int xf] : List Value).toArray below meth c s.heap [] 0 0 (MQ below (zS (fun v => v.toInt = mfZ (τ.2.2 t.toNat) (τ.2.2 u.toNat) (ahZ (τ.2.2 t.toNat) k) (bhZ (τ.2.2 t.toNat) k) f)) ([.ref o, .int x, .int y, .int xu, .int xf] : List Value).toArray s 0 0 zno) (F0 m 33 ls []) := by
    intro n33
    induction n33 with
    | zero =>
      intro x7 i7 hx7 x8 i8 hx8 hmu33 hi33_0 hi33_1 hi33_2 ls hl
      exact absurd hmu33 (Nat.not_lt_zero _)
    | succ n33 ih33 =>
      intro x7 i7 hx7 x8 i8 hx8 hmu33 hi33_0 hi33_1 hi33_2 ls hl
      have hq1 := hsm.cord i8
      have hq2 := hsm.cord (i8 - 1)
      have hq3 := hso.cord (i8 + f)
      have hq4 := hso.cord (i8 + f - 1)
      have hmb := mfT_b hsm hso f i8
      refine lv_iload hx hb dX5_misfitOf_33 (lv_at hl 8 rfl) ?_
      refine lv_iload hx hb dX5_misfitOf_35 (lv_at hl 6 rfl) ?_
      refine lv_bipush (v := (12 : Int32)) hx hb dX5_misfitOf_37 (by decide) ?_
      refine z_iadd hx hb e5 kI_12 dX5_misfitOf_39 (by omega) (fun z7 e7 => ?_)
      refine z_icmp_gt (tgt := 139) hx hb hx8 e7 dX5_misfitOf_40 (by decide) (fun c_8 => ?_) (fun c_8 => ?_)
      · refine lv_iload hx hb dX5_misfitOf_139 (lv_at hl 7 rfl) ?_
        exact z_ri (v := x7) hx hb hr hlocks (show x7.toInt = mfZ (τ.2.2 t.toNat) (τ.2.2 u.toNat) (ahZ (τ.2.2 t.toNat) k) (bhZ (τ.2.2 t.toNat) k) f from (by rw [hx7, hi33_1, show i8 = hbZ (τ.2.2 t.toNat) (fgZ (τ.2.2 t.toNat) k) + 13 by omega]; exact mg_sum (by omega))) dX5_misfitOf_141
      · refine lv_iload hx hb dX5_misfitOf_43 (lv_at hl 8 rfl) ?_
        refine lv_iload hx hb dX5_misfitOf_45 (lv_at hl 5 rfl) ?_
        refine z_icmp_le (tgt := 57) hx hb hx8 e2 dX5_misfitOf_47 (by decide) (fun c_9 => ?_) (fun c_9 => ?_)
        · refine lv_aload_n hx hb dX5_misfitOf_57 rfl (lv_at hl 0 rfl) ?_
          refine lv_iload_n hx hb dX5_misfitOf_58 rfl (lv_at hl 1 rfl) ?_
          refine lv_iload hx hb dX5_misfitOf_59 (lv_at hl 8 rfl) ?_
          refine z_cV (As := [.int x, .int x8]) (rest := []) ⟨hx, hb, hml, hown, hts⟩ (kX5_areRead l G o μ x t e_x x8 i8 hx8 τ (by first | assumption | omega) (by first | assumption | omega) (by first | assumption | omega) (by first | assumption | omega)) (cwV 2 hts gX5_misfitOf_X5_areRead rfl rfl rfl hyX5_areRead ⟨Nat.le_of_ble_eq_true rfl, Nat.le_of_ble_eq_true rfl⟩) hK hM hM.1 rfl rfl hl.1 rfl (Nat.le_of_ble_eq_true rfl) dX5_misfitOf_61 ⟨Nat.zero_le _, Nat.zero_le _⟩ (fun z10 e10 => ?_)
          have e10 : isB z10 (kindZ (τ.2.2 t.toNat) i8 = 0 ∧ kindZ (τ.2.2 t.toNat) (i8 - 1) = 0) := e10
          refine z_ifb_eq (tgt := 133) hx hb e10 dX5_misfitOf_64 (by decide) (fun c_11 => ?_) (fun c_11 => ?_)
          · have ht9 := mfT_g1 (o := τ.2.2 u.toNat) (f := f) c_11
            refine z_iinc (k := 8) hx hb dX5_misfitOf_133 hl rfl hx8 (show (Int32.ofInt 1).toInt = (1 : Int) from rfl) (by omega) (by decide) (fun z12 e12 ls hl => ?_)
            have hl : lv_has ls 10 [(8, .int z12), (0, .ref o), (1, .int x), (2, .int y), (3, .int xu), (4, .int xf), (5, .int z2), (6, .int z5), (7, .int x7)] := hl
            refine lv_goto (tgt := 33) hx hb dX5_misfitOf_136 (by decide) ?_
            exact ih33 x7 i7 hx7 z12 (i8 + (1 : Int)) e12 (by omega) (by omega) (by rw [sumZ_s (by omega), mgT_in (by omega), ht9, Int.add_zero]; exact hi33_1) (by omega) ls (lv_sub hl [1, 2, 3, 4, 5, 6, 7, 8, 0] rfl)
          · have hA := c_11
            have hA1 := (kindZ_in hgo (by omega) hA.1).1
            have hA2 := (kindZ_in hgo (by omega) hA.2).1
            refine lv_aload_n hx hb dX5_misfitOf_67 rfl (lv_at hl 0 rfl) ?_
            refine lv_iload_n hx hb dX5_misfitOf_68 rfl (lv_at hl 3 rfl) ?_
            refine lv_iload hx hb dX5_misfitOf_69 (lv_at hl 8 rfl) ?_
            refine lv_iload hx hb dX5_misfitOf_71 (lv_at hl 4 rfl) ?_
            refine z_iadd hx hb hx8 e_xf dX5_misfitOf_73 (by omega) (fun z13 e13 => ?_)
            refine z_cV (As := [.int xu, .int z13]) (rest := []) ⟨hx, hb, hml, hown, hts⟩ (kX5_areRead l G o μ xu u e_xu z13 (i8 + f) e13 τ (by first | assumption | omega) (by first | assumption | omega) ho (by first | assumption | omega)) (cwV 2 hts gX5_misfitOf_X5_areRead rfl rfl rfl hyX5_areRead ⟨Nat.le_of_ble_eq_true rfl, Nat.le_of_ble_eq_true rfl⟩) hK hM hM.1 rfl rfl hl.1 rfl (Nat.le_of_ble_eq_true rfl) dX5_misfitOf_74 ⟨Nat.zero_le _, Nat.zero_le _⟩ (fun z14 e14 => ?_)
            have e14 : isB z14 (kindZ (τ.2.2 u.toNat) (i8 + f) = 0 ∧ kindZ (τ.2.2 u.toNat) ((i8 + f) - 1) = 0) := e14
            refine z_ifb_eq (tgt := 133) hx hb e14 dX5_misfitOf_77 (by decide) (fun c_15 => ?_) (fun c_15 => ?_)
            · have ht9 := mfT_g2 (d := τ.2.2 t.toNat) c_15
              refine z_iinc (k := 8) hx hb dX5_misfitOf_133 hl rfl hx8 (show (Int32.ofInt 1).toInt = (1 : Int) from rfl) (by omega) (by decide) (fun z16 e16 ls hl => ?_)
              have hl : lv_has ls 10 [(8, .int z16), (0, .ref o), (1, .int x), (2, .int y), (3, .int xu), (4, .int xf), (5, .int z2), (6, .int z5), (7, .int x7)] := hl
              refine lv_goto (tgt := 33) hx hb dX5_misfitOf_136 (by decide) ?_
              exact ih33 x7 i7 hx7 z16 (i8 + (1 : Int)) e16 (by omega) (by omega) (by rw [sumZ_s (by omega), mgT_in (by omega), ht9, Int.add_zero]; exact hi33_1) (by omega) ls (lv_sub hl [1, 2, 3, 4, 5, 6, 7, 8, 0] rfl)
            · have hB := c_15
              have hB1 := (kindZ_in hgo2 (by omega) hB.1).1
              have hB2 := (kindZ_in hgo2 (by omega) hB.2).1
              have ht9 := mfT_g3 hA hB
              refine lv_aload_n hx hb dX5_misfitOf_80 rfl (lv_at hl 0 rfl) ?_
              refine lv_iload_n hx hb dX5_misfitOf_81 rfl (lv_at hl 1 rfl) ?_
              refine lv_iload hx hb dX5_misfitOf_82 (lv_at hl 8 rfl) ?_
              refine z_cV (As := [.int x, .int x8]) (rest := []) ⟨hx, hb, hml, hown, hts⟩ (kX5_corrected l G o μ x t e_x x8 i8 hx8 (τ.2.2 t.toNat) τ.1.toInt (hR.g ht) hgo (by first | assumption | omega) ht (by first | assumption | omega) hA.1) (cwV 2 hts gX5_misfitOf_X5_corrected rfl rfl rfl hyX5_corrected ⟨Nat.le_of_ble_eq_true rfl, Nat.le_of_ble_eq_true rfl⟩) hK hM hM.1 rfl rfl hl.1 rfl (Nat.le_of_ble_eq_true rfl) dX5_misfitOf_84 ⟨Nat.zero_le _, Nat.zero_le _⟩ (fun z17 e17 => ?_)
              have e17 : z17.toInt = cordZ (τ.2.2 t.toNat) i8 := e17
              refine lv_aload_n hx hb dX5_misfitOf_87 rfl (lv_at hl 0 rfl) ?_
              refine lv_iload_n hx hb dX5_misfitOf_88 rfl (lv_at hl 1 rfl) ?_
              refine lv_iload hx hb dX5_misfitOf_89 (lv_at hl 8 rfl) ?_
              refine lv_iconst (v := (1 : Int32)) hx hb dX5_misfitOf_91 (by decide) ?_
              refine z_isub hx hb hx8 kI_1 dX5_misfitOf_92 (by omega) (fun z18 e18 => ?_)
              refine z_cV (As := [.int x, .int z18]) (rest := [.int z17]) ⟨hx, hb, hml, hown, hts⟩ (kX5_corrected l G o μ x t e_x z18 (i8 - (1 : Int)) e18 (τ.2.2 t.toNat) τ.1.toInt (hR.g ht) hgo (by first | assumption | omega) ht (by first | assumption | omega) hA.2) (cwV 2 hts gX5_misfitOf_X5_corrected rfl rfl rfl hyX5_corrected ⟨Nat.le_of_ble_eq_true rfl, Nat.le_of_ble_eq_true rfl⟩) hK hM hM.1 rfl rfl hl.1 rfl (Nat.le_of_ble_eq_true rfl) dX5_misfitOf_93 ⟨Nat.zero_le _, Nat.zero_le _⟩ (fun z19 e19 => ?_)
              have e19 : z19.toInt = cordZ (τ.2.2 t.toNat) (i8 - (1 : Int)) := e19
              refine z_isub hx hb e17 e19 dX5_misfitOf_96 (by omega) (fun z20 e20 => ?_)
              refine lv_istore hx hb dX5_misfitOf_97 hl (by decide) rfl (fun ls hl => ?_)
              have hl : lv_has ls 10 [(9, .int z20), (0, .ref o), (1, .int x), (2, .int y), (3, .int xu), (4, .int xf), (5, .int z2), (6, .int z5), (7, .int x7), (8, .int x8)] := hl
              refine lv_iload hx hb dX5_misfitOf_99 (lv_at hl 8 rfl) ?_
              refine lv_iload hx hb dX5_misfitOf_101 (lv_at hl 0 rfl) ?_
              refine lv_aload_n hx hb dX5_misfitOf_103 rfl (lv_at hl 1 rfl) ?_
              refine lv_iload_n hx hb dX5_misfitOf_104 rfl (lv_at hl 4 rfl) ?_
              refine lv_iload hx hb dX5_misfitOf_105 (lv_at hl 9 rfl) ?_
              refine lv_iload hx hb dX5_misfitOf_107 (lv_at hl 5 rfl) ?_
              refine z_iadd hx hb hx8 e_xf dX5_misfitOf_109 (by omega) (fun z21 e21 => ?_)
              refine z_cV (As := [.int xu, .int z21]) (rest := [.int z20, .int x7]) ⟨hx, hb, hml, hown, hts⟩ (kX5_corrected l G o μ xu u e_xu z21 (i8 + f) e21 (τ.2.2 u.toNat) τ.1.toInt (hR.g ho) hgo2 (by first | assumption | omega) ho (by first | assumption | omega) hB.1) (cwV 2 hts gX5_misfitOf_X5_corrected rfl rfl rfl hyX5_corrected ⟨Nat.le_of_ble_eq_true rfl, Nat.le_of_ble_eq_true rfl⟩) hK hM hM.1 rfl rfl hl.1 rfl (Nat.le_of_ble_eq_true rfl) dX5_misfitOf_110 ⟨Nat.zero_le _, Nat.zero_le _⟩ (fun z22 e22 => ?_)
              have e22 : z22.toInt = cordZ (τ.2.2 u.toNat) (i8 + f) := e22
              refine z_isub hx hb e20 e22 dX5_misfitOf_113 (by omega) (fun z23 e23 => ?_)
              refine lv_aload_n hx hb dX5_misfitOf_114 rfl (lv_at hl 1 rfl) ?_
              refine lv_iload_n hx hb dX5_misfitOf_115 rfl (lv_at hl 4 rfl) ?_
              refine lv_iload hx hb dX5_misfitOf_116 (lv_at hl 9 rfl) ?_
              refine lv_iload hx hb dX5_misfitOf_118 (lv_at hl 5 rfl) ?_
              refine z_iadd hx hb hx8 e_xf dX5_misfitOf_120 (by omega) (fun z24 e24 => ?_)
              refine lv_iconst (v := (1 : Int32)) hx hb dX5_misfitOf_121 (by decide) ?_
              refine z_isub hx hb e24 kI_1 dX5_misfitOf_122 (by omega) (fun z25 e25 => ?_)
              refine z_cV (As := [.int xu, .int z25]) (rest := [.int z23, .int x7]) ⟨hx, hb, hml, hown, hts⟩ (kX5_corrected l G o μ xu u e_xu z25 ((i8 + f) - (1 : Int)) e25 (τ.2.2 u.toNat) τ.1.toInt (hR.g ho) hgo2 (by first | assumption | omega) ho (by first | assumption | omega) hB.2) (cwV 2 hts gX5_misfitOf_X5_corrected rfl rfl rfl hyX5_corrected ⟨Nat.le_of_ble_eq_true rfl, Nat.le_of_ble_eq_true rfl⟩) hK hM hM.1 rfl rfl hl.1 rfl (Nat.le_of_ble_eq_true rfl) dX5_misfitOf_123 ⟨Nat.zero_le _, Nat.zero_le _⟩ (fun z26 e26 => ?_)
              have e26 : z26.toInt = cordZ (τ.2.2 u.toNat) ((i8 + f) - (1 : Int)) := e26
              refine z_iadd hx hb e23 e26 dX5_misfitOf_126 (by omega) (fun z27 e27 => ?_)
              refine z_cS (As := [.int z27]) (rest := [.int x7]) ⟨hx, hb, hml, hown, hts⟩ (kX5_size l G z27 ((((cordZ (τ.2.2 t.toNat) i8) - (cordZ (τ.2.2 t.toNat) (i8 - (1 : Int)))) - (cordZ (τ.2.2 u.toNat) (i8 + f))) + (cordZ (τ.2.2 u.toNat) ((i8 + f) - (1 : Int)))) e27 (by first | assumption | omega)) (va_cwS 1 hts gX5_misfitOf_X5_size rfl rfl rfl hyX5_size ⟨Nat.le_of_ble_eq_true rfl, Nat.le_of_ble_eq_true rfl⟩) hK trivial rfl hl.1 rfl (Nat.le_of_ble_eq_true rfl) dX5_misfitOf_127 ⟨Nat.zero_le _, Nat.zero_le _⟩ (fun z28 e28 => ?_)
              have e28 : z28.toInt = abz ((((cordZ (τ.2.2 t.toNat) i8) - (cordZ (τ.2.2 t.toNat) (i8 - (1 : Int)))) - (cordZ (τ.2.2 u.toNat) (i8 + f))) + (cordZ (τ.2.2 u.toNat) ((i8 + f) - (1 : Int)))) := e28
              have e28 : z28.toInt = abz (riseZ (τ.2.2 t.toNat) i8 - riseZ (τ.2.2 u.toNat) (i8 + f)) := by rw [e28]; congr 1; unfold riseZ; omega
              refine z_iadd hx hb hx7 e28 dX5_misfitOf_130 (by omega) (fun z29 e29 => ?_)
              refine lv_istore hx hb dX5_misfitOf_131 hl (by decide) rfl (fun ls hl => ?_)
              have hl : lv_has ls 10 [(7, .int z29), (9, .int z20), (0, .ref o), (1, .int x), (2, .int y), (3, .int xu), (4, .int xf), (5, .int z2), (6, .int z5), (8, .int x8)] := hl
              refine z_iinc (k := 9) hx hb dX5_misfitOf_133 hl rfl hx8 (show (Int32.ofInt 1).toInt = (1 : Int) from rfl) (by omega) (by decide) (fun z30 e30 ls hl => ?_)
              have hl : lv_has ls 10 [(8, .int z30), (7, .int z29), (9, .int z20), (0, .ref o), (1, .int x), (2, .int y), (3, .int xu), (4, .int xf), (5, .int z2), (6, .int z5)] := hl
              refine lv_goto (tgt := 33) hx hb dX5_misfitOf_136 (by decide) ?_
              exact ih33 z29 (i7 + (abz (riseZ (τ.2.2 t.toNat) i8 - riseZ (τ.2.2 u.toNat) (i8 + f)))) e29 z30 (i8 + (1 : Int)) e30 (by omega) (by omega) (by rw [sumZ_s (by omega), mgT_in (by omega), ht9, ← hi33_1]) (by omega) ls (lv_sub hl [3, 4, 5, 6, 7, 8, 9, 1, 0] rfl)
        · refine lv_iload hx hb dX5_misfitOf_50 (lv_at hl 8 rfl) ?_
          refine lv_iload hx hb dX5_misfitOf_52 (lv_at hl 6 rfl) ?_
          refine z_icmp_le (tgt := 133) hx hb hx8 e5 dX5_misfitOf_54 (by decide) (fun c_31 => ?_) (fun c_31 => ?_)
          · refine z_iinc (k := 8) hx hb dX5_misfitOf_133 hl rfl hx8 (show (Int32.ofInt 1).toInt = (1 : Int) from rfl) (by omega) (by decide) (fun z32 e32 ls hl => ?_)
            have hl : lv_has ls 10 [(8, .int z32), (0, .ref o), (1, .int x), (2, .int y), (3, .int xu), (4, .int xf), (5, .int z2), (6, .int z5), (7, .int x7)] := hl
            refine lv_goto (tgt := 33) hx hb dX5_misfitOf_136 (by decide) ?_
            exact ih33 x7 i7 hx7 z32 (i8 + (1 : Int)) e32 (by omega) (by omega) (by rw [sumZ_s (by omega), mgT_out (by omega), Int.add_zero]; exact hi33_1) (by omega) ls (lv_sub hl [1, 2, 3, 4, 5, 6, 7, 8, 0] rfl)
          · refine lv_aload_n hx hb dX5_misfitOf_57 rfl (lv_at hl 0 rfl) ?_
            refine lv_iload_n hx hb dX5_misfitOf_58 rfl (lv_at hl 1 rfl) ?_
            refine lv_iload hx hb dX5_misfitOf_59 (lv_at hl 8 rfl) ?_
            refine z_cV (As := [.int x, .int x8]) (rest := []) ⟨hx, hb, hml, hown, hts⟩ (kX5_areRead l G o μ x t e_x x8 i8 hx8 τ (by first | assumption | omega) (by first | assumption | omega) (by first | assumption | omega) (by first | assumption | omega)) (cwV 2 hts gX5_misfitOf_X5_areRead rfl rfl rfl hyX5_areRead ⟨Nat.le_of_ble_eq_true rfl, Nat.le_of_ble_eq_true rfl⟩) hK hM hM.1 rfl rfl hl.1 rfl (Nat.le_of_ble_eq_true rfl) dX5_misfitOf_61 ⟨Nat.zero_le _, Nat.zero_le _⟩ (fun z33 e33 => ?_)
            have e33 : isB z33 (kindZ (τ.2.2 t.toNat) i8 = 0 ∧ kindZ (τ.2.2 t.toNat) (i8 - 1) = 0) := e33
            refine z_ifb_eq (tgt := 133) hx hb e33 dX5_misfitOf_64 (by decide) (fun c_34 => ?_) (fun c_34 => ?_)
            · have ht9 := mfT_g1 (o := τ.2.2 u.toNat) (f := f) c_34
              refine z_iinc (k := 8) hx hb dX5_misfitOf_133 hl rfl hx8 (show (Int32.ofInt 1).toInt = (1 : Int) from rfl) (by omega) (by decide) (fun z35 e35 ls hl => ?_)
              have hl : lv_has ls 10 [(8, .int z35), (0, .ref o), (1, .int x), (2, .int y), (3, .int xu), (4, .int xf), (5, .int z2), (6, .int z5), (7, .int x7)] := hl
              refine lv_goto (tgt := 33) hx hb dX5_misfitOf_136 (by decide) ?_
              exact ih33 x7 i7 hx7 z35 (i8 + (1 : Int)) e35 (by omega) (by omega) (by rw [sumZ_s (by omega), mgT_in (by omega), ht9, Int.add_zero]; exact hi33_1) (by omega) ls (lv_sub hl [1, 2, 3, 4, 5, 6, 7, 8, 0] rfl)
            · have hA := c_34
              have hA1 := (kindZ_in hgo (by omega) hA.1).1
              have hA2 := (kindZ_in hgo (by omega) hA.2).1
              refine lv_aload_n hx hb dX5_misfitOf_67 rfl (lv_at hl 0 rfl) ?_
              refine lv_iload_n hx hb dX5_misfitOf_68 rfl (lv_at hl 3 rfl) ?_
              refine lv_iload hx hb dX5_misfitOf_69 (lv_at hl 8 rfl) ?_
              refine lv_iload hx hb dX5_misfitOf_71 (lv_at hl 4 rfl) ?_
              refine z_iadd hx hb hx8 e_xf dX5_misfitOf_73 (by omega) (fun z36 e36 => ?_)
              refine z_cV (As := [.int xu, .int z36]) (rest := []) ⟨hx, hb, hml, hown, hts⟩ (kX5_areRead l G o μ xu u e_xu z36 (i8 + f) e36 τ (by first | assumption | omega) (by first | assumption | omega) ho (by first | assumption | omega)) (cwV 2 hts gX5_misfitOf_X5_areRead rfl rfl rfl hyX5_areRead ⟨Nat.le_of_ble_eq_true rfl, Nat.le_of_ble_eq_true rfl⟩) hK hM hM.1 rfl rfl hl.1 rfl (Nat.le_of_ble_eq_true rfl) dX5_misfitOf_74 ⟨Nat.zero_le _, Nat.zero_le _⟩ (fun z37 e37 => ?_)
              have e37 : isB z37 (kindZ (τ.2.2 u.toNat) (i8 + f) = 0 ∧ kindZ (τ.2.2 u.toNat) ((i8 + f) - 1) = 0) := e37
              refine z_ifb_eq (tgt := 133) hx hb e37 dX5_misfitOf_77 (by decide) (fun c_38 => ?_) (fun c_38 => ?_)
              · have ht9 := mfT_g2 (d := τ.2.2 t.toNat) c_38
                refine z_iinc (k := 8) hx hb dX5_misfitOf_133 hl rfl hx8 (show (Int32.ofInt 1).toInt = (1 : Int) from rfl) (by omega) (by decide) (fun z39 e39 ls hl => ?_)
                have hl : lv_has ls 10 [(8, .int z39), (0, .ref o), (1, .int x), (2, .int y), (3, .int xu), (4, .int xf), (5, .int z2), (6, .int z5), (7, .int x7)] := hl
                refine lv_goto (tgt := 33) hx hb dX5_misfitOf_136 (by decide) ?_
                exact ih33 x7 i7 hx7 z39 (i8 + (1 : Int)) e39 (by omega) (by omega) (by rw [sumZ_s (by omega), mgT_in (by omega), ht9, Int.add_zero]; exact hi33_1) (by omega) ls (lv_sub hl [1, 2, 3, 4, 5, 6, 7, 8, 0] rfl)
              · have hB := c_38
                have hB1 := (kindZ_in hgo2 (by omega) hB.1).1
                have hB2 := (kindZ_in hgo2 (by omega) hB.2).1
                have ht9 := mfT_g3 hA hB
                refine lv_aload_n hx hb dX5_misfitOf_80 rfl (lv_at hl 0 rfl) ?_
                refine lv_iload_n hx hb dX5_misfitOf_81 rfl (lv_at hl 1 rfl) ?_
                refine lv_iload hx hb dX5_misfitOf_82 (lv_at hl 8 rfl) ?_
                refine z_cV (As := [.int x, .int x8]) (rest := []) ⟨hx, hb, hml, hown, hts⟩ (kX5_corrected l G o μ x t e_x x8 i8 hx8 (τ.2.2 t.toNat) τ.1.toInt (hR.g ht) hgo (by first | assumption | omega) ht (by first | assumption | omega) hA.1) (cwV 2 hts gX5_misfitOf_X5_corrected rfl rfl rfl hyX5_corrected ⟨Nat.le_of_ble_eq_true rfl, Nat.le_of_ble_eq_true rfl⟩) hK hM hM.1 rfl rfl hl.1 rfl (Nat.le_of_ble_eq_true rfl) dX5_misfitOf_84 ⟨Nat.zero_le _, Nat.zero_le _⟩ (fun z40 e40 => ?_)
                have e40 : z40.toInt = cordZ (τ.2.2 t.toNat) i8 := e40
                refine lv_aload_n hx hb dX5_misfitOf_87 rfl (lv_at hl 0 rfl) ?_
                refine lv_iload_n hx hb dX5_misfitOf_88 rfl (lv_at hl 1 rfl) ?_
                refine lv_iload hx hb dX5_misfitOf_89 (lv_at hl 8 rfl) ?_
                refine lv_iconst (v := (1 : Int32)) hx hb dX5_misfitOf_91 (by decide) ?_
                refine z_isub hx hb hx8 kI_1 dX5_misfitOf_92 (by omega) (fun z41 e41 => ?_)
                refine z_cV (As := [.int x, .int z41]) (rest := [.int z40]) ⟨hx, hb, hml, hown, hts⟩ (kX5_corrected l G o μ x t e_x z41 (i8 - (1 : Int)) e41 (τ.2.2 t.toNat) τ.1.toInt (hR.g ht) hgo (by first | assumption | omega) ht (by first | assumption | omega) hA.2) (cwV 2 hts gX5_misfitOf_X5_corrected rfl rfl rfl hyX5_corrected ⟨Nat.le_of_ble_eq_true rfl, Nat.le_of_ble_eq_true rfl⟩) hK hM hM.1 rfl rfl hl.1 rfl (Nat.le_of_ble_eq_true rfl) dX5_misfitOf_93 ⟨Nat.zero_le _, Nat.zero_le _⟩ (fun z42 e42 => ?_)
                have e42 : z42.toInt = cordZ (τ.2.2 t.toNat) (i8 - (1 : Int)) := e42
                refine z_isub hx hb e40 e42 dX5_misfitOf_96 (by omega) (fun z43 e43 => ?_)
                refine lv_istore hx hb dX5_misfitOf_97 hl (by decide) rfl (fun ls hl => ?_)
                have hl : lv_has ls 10 [(9, .int z43), (0, .ref o), (1, .int x), (2, .int y), (3, .int xu), (4, .int xf), (5, .int z2), (6, .int z5), (7, .int x7), (8, .int x8)] := hl
                refine lv_iload hx hb dX5_misfitOf_99 (lv_at hl 8 rfl) ?_
                refine lv_iload hx hb dX5_misfitOf_101 (lv_at hl 0 rfl) ?_
                refine lv_aload_n hx hb dX5_misfitOf_103 rfl (lv_at hl 1 rfl) ?_
                refine lv_iload_n hx hb dX5_misfitOf_104 rfl (lv_at hl 4 rfl) ?_
                refine lv_iload hx hb dX5_misfitOf_105 (lv_at hl 9 rfl) ?_
                refine lv_iload hx hb dX5_misfitOf_107 (lv_at hl 5 rfl) ?_
                refine z_iadd hx hb hx8 e_xf dX5_misfitOf_109 (by omega) (fun z44 e44 => ?_)
                refine z_cV (As := [.int xu, .int z44]) (rest := [.int z43, .int x7]) ⟨hx, hb, hml, hown, hts⟩ (kX5_corrected l G o μ xu u e_xu z44 (i8 + f) e44 (τ.2.2 u.toNat) τ.1.toInt (hR.g ho) hgo2 (by first | assumption | omega) ho (by first | assumption | omega) hB.1) (cwV 2 hts gX5_misfitOf_X5_corrected rfl rfl rfl hyX5_corrected ⟨Nat.le_of_ble_eq_true rfl, Nat.le_of_ble_eq_true rfl⟩) hK hM hM.1 rfl rfl hl.1 rfl (Nat.le_of_ble_eq_true rfl) dX5_misfitOf_110 ⟨Nat.zero_le _, Nat.zero_le _⟩ (fun z45 e45 => ?_)
                have e45 : z45.toInt = cordZ (τ.2.2 u.toNat) (i8 + f) := e45
                refine z_isub hx hb e43 e45 dX5_misfitOf_113 (by omega) (fun z46 e46 => ?_)
                refine lv_aload_n hx hb dX5_misfitOf_114 rfl (lv_at hl 1 rfl) ?_
                refine lv_iload_n hx hb dX5_misfitOf_115 rfl (lv_at hl 4 rfl) ?_
                refine lv_iload hx hb dX5_misfitOf_116 (lv_at hl 9 rfl) ?_
                refine lv_iload hx hb dX5_misfitOf_118 (lv_at hl 5 rfl) ?_
                refine z_iadd hx hb hx8 e_xf dX5_misfitOf_120 (by omega) (fun z47 e47 => ?_)
                refine lv_iconst (v := (1 : Int32)) hx hb dX5_misfitOf_121 (by decide) ?_
                refine z_isub hx hb e47 kI_1 dX5_misfitOf_122 (by omega) (fun z48 e48 => ?_)
                refine z_cV (As := [.int xu, .int z48]) (rest := [.int z46, .int x7]) ⟨hx, hb, hml, hown, hts⟩ (kX5_corrected l G o μ xu u e_xu z48 ((i8 + f) - (1 : Int)) e48 (τ.2.2 u.toNat) τ.1.toInt (hR.g ho) hgo2 (by first | assumption | omega) ho (by first | assumption | omega) hB.2) (cwV 2 hts gX5_misfitOf_X5_corrected rfl rfl rfl hyX5_corrected ⟨Nat.le_of_ble_eq_true rfl, Nat.le_of_ble_eq_true rfl⟩) hK hM hM.1 rfl rfl hl.1 rfl (Nat.le_of_ble_eq_true rfl) dX5_misfitOf_123 ⟨Nat.zero_le _, Nat.zero_le _⟩ (fun z49 e49 => ?_)
                have e49 : z49.toInt = cordZ (τ.2.2 u.toNat) ((i8 + f) - (1 : Int)) := e49
                refine z_iadd hx hb e46 e49 dX5_misfitOf_126 (by omega) (fun z50 e50 => ?_)
                refine z_cS (As := [.int z50]) (rest := [.int x7]) ⟨hx, hb, hml, hown, hts⟩ (kX5_size l G z50 ((((cordZ (τ.2.2 t.toNat) i8) - (cordZ (τ.2.2 t.toNat) (i8 - (1 : Int)))) - (cordZ (τ.2.2 u.toNat) (i8 + f))) + (cordZ (τ.2.2 u.toNat) ((i8 + f) - (1 : Int)))) e50 (by first | assumption | omega)) (va_cwS 1 hts gX5_misfitOf_X5_size rfl rfl rfl hyX5_size ⟨Nat.le_of_ble_eq_true rfl, Nat.le_of_ble_eq_true rfl⟩) hK trivial rfl hl.1 rfl (Nat.le_of_ble_eq_true rfl) dX5_misfitOf_127 ⟨Nat.zero_le _, Nat.zero_le _⟩ (fun z51 e51 => ?_)
                have e51 : z51.toInt = abz ((((cordZ (τ.2.2 t.toNat) i8) - (cordZ (τ.2.2 t.toNat) (i8 - (1 : Int)))) - (cordZ (τ.2.2 u.toNat) (i8 + f))) + (cordZ (τ.2.2 u.toNat) ((i8 + f) - (1 : Int)))) := e51
                have e51 : z51.toInt = abz (riseZ (τ.2.2 t.toNat) i8 - riseZ (τ.2.2 u.toNat) (i8 + f)) := by rw [e51]; congr 1; unfold riseZ; omega
                refine z_iadd hx hb hx7 e51 dX5_misfitOf_130 (by omega) (fun z52 e52 => ?_)
                refine lv_istore hx hb dX5_misfitOf_131 hl (by decide) rfl (fun ls hl => ?_)
                have hl : lv_has ls 10 [(7, .int z52), (9, .int z43), (0, .ref o), (1, .int x), (2, .int y), (3, .int xu), (4, .int xf), (5, .int z2), (6, .int z5), (8, .int x8)] := hl
                refine z_iinc (k := 9) hx hb dX5_misfitOf_133 hl rfl hx8 (show (Int32.ofInt 1).toInt = (1 : Int) from rfl) (by omega) (by decide) (fun z53 e53 ls hl => ?_)
                have hl : lv_has ls 10 [(8, .int z53), (7, .int z52), (9, .int z43), (0, .ref o), (1, .int x), (2, .int y), (3, .int xu), (4, .int xf), (5, .int z2), (6, .int z5)] := hl
                refine lv_goto (tgt := 33) hx hb dX5_misfitOf_136 (by decide) ?_
                exact ih33 z52 (i7 + (abz (riseZ (τ.2.2 t.toNat) i8 - riseZ (τ.2.2 u.toNat) (i8 + f)))) e52 z53 (i8 + (1 : Int)) e53 (by omega) (by omega) (by rw [sumZ_s (by omega), mgT_in (by omega), ht9, ← hi33_1]) (by omega) ls (lv_sub hl [3, 4, 5, 6, 7, 8, 9, 1, 0] rfl)
  exact cut33 (((hbZ (τ.2.2 t.toNat) (fgZ (τ.2.2 t.toNat) k) + 13 - (((fgZ (τ.2.2 t.toNat) k) - (1 : Int)) - (11 : Int))).toNat) + 1) (0 : Int32) (0 : Int) kI_0 z6 (((fgZ (τ.2.2 t.toNat) k) - (1 : Int)) - (11 : Int)) e6 (Nat.lt_succ_self _) (by omega) (by rw [sumZ_0 (by omega)]) (by omega) ls (lv_sub hl [4, 5, 6, 7, 8, 3, 2, 1, 0] rfl)
