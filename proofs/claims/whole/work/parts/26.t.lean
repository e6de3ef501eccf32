abbrev rmX5_goBy : Room := { frames := 3, cells := 0, slots := 0, locals := 69 }
theorem iwX5_goBy_5 : ∀ w ∈ wsX50, w ∈ wsX5_goBy := fun _ h => List.mem_cons_of_mem _ (List.mem_append_right _ h)
theorem flX5_goBy_7 : Cond.fieldLink RX5 7 "SiltedFloatsModel" "s" "[I" ∈ wsX5_goBy := by decide +kernel
theorem hyX5_goBy : yX5_goBy.cls = RX5 ∧ yX5_goBy.cls ≠ "java/lang/invoke/MethodHandle" ∧ yX5_goBy.cls ≠ "java/lang/invoke/VarHandle" ∧ (parseMethodDescriptor yX5_goBy.desc).map (fun d => d.parameters.length) = some 0 := by decide +kernel
set_option maxHeartbeats 8000000 in
set_option maxRecDepth 100000 in
theorem kX5_goBy (l : Launch) (G : xG) (o : Nat) (μ : MD) (τ : SD) (hR : Rs τ μ.2.1) (hok : stOk τ) (hn9 : τ.1.toInt < 120) : Met l yX5_goBy wsX5_goBy rmX5_goBy (va_Pc [.ref o] (zPre G (fun H => MO G H o μ))) (zV (fun H => ∃ n9 : MD, MO G H o n9 ∧ (Rs (pH1 τ) n9.2.1 ∧ Mf μ n9)) (iv o 5)) 0 0 (iv o 5) := by
  refine z_ofW (cc := cX5_goBy) (maxL := 5) (ret := none) (by decide +kernel) rfl (Nat.le_of_ble_eq_true rfl) ?_
  intro p e s m below meth c hx hb hml hr hts hown hlocks hK hP ls hl
  have hM := hP
  have hown : s.vm.findClass RX5 = some m.cls := hown
  have hl : lv_has ls 5 [(0, .ref o)] := hl
  have hS : va_S (iv o 5) s.heap s.heap [] := va_S.rf
  have hn0 := hR.1
  have hok1 := hok.1
  refine lv_aload_n hx hb dX5_goBy_0 rfl (lv_at hl 0 rfl) ?_
  refine z_get hx hb hts iwX5_goBy_5 hown hK hM.1 rfl 0 (by decide) flX5_goBy_7 rfl (v := .ref (o + 1)) rfl dX5_goBy_1 ?_
  refine lv_iconst (v := (0 : Int32)) hx hb dX5_goBy_4 (by decide) ?_
  refine z_iald (f := μ.2.1) hx hb hK 0 hM.2.1 rfl kI_0 (by omega) dX5_goBy_5 ?_
  have hcl1 : (μ.2.1 (0 : Int).toNat).toInt = τ.1.toInt := hn0
  refine lv_istore_n hx hb dX5_goBy_6 rfl hl (by decide) rfl (fun ls hl => ?_)
  have hl : lv_has ls 5 [(1, .int (μ.2.1 (0 : Int).toNat)), (0, .ref o)] := hl
  refine lv_iconst (v := (0 : Int32)) hx hb dX5_goBy_7 (by decide) ?_
  refine lv_istore_n hx hb dX5_goBy_8 rfl hl (by decide) rfl (fun ls hl => ?_)
  have hl : lv_has ls 5 [(2, .int (0 : Int32)), (1, .int (μ.2.1 (0 : Int).toNat)), (0, .ref o)] := hl
  have cut9 : ∀ (n9 : Nat), ∀ (x2 : Int32) (i2 : Int) (_ : x2.toInt = i2) (d_hM : MD), (3 - i2).toNat < n9 → (0 ≤ i2 ∧ i2 ≤ 3) → (Rq τ i2 d_hM.2.1 ∧ Mf μ d_hM) → ∀ (H : Heap) (locs : List Loc), MO G H o d_hM → va_S (iv o 5) s.heap H locs → ∀ ls : Array Slot, lv_has ls 5 [(0, .ref o), (1, .int (μ.2.1 (0 : Int).toNat)), (2, .int x2)] → W p l e rmX5_goBy s m ([.ref o] : List Value).toArray below meth c H locs 0 0 (MQ below (zV (fun H => ∃ n9 : MD, MO G H o n9 ∧ (Rs (pH1 τ) n9.2.1 ∧ Mf μ n9)) (iv o 5)) ([.ref o] : List Value).toArray s 0 0 (iv o 5)) (F0 m 9 ls []) := by
    intro n9
    induction n9 with
    | zero =>
      intro x2 i2 hx2 d_hM hmu9 hi9_0 hi9_1 H locs hM hS ls hl
      exact absurd hmu9 (Nat.not_lt_zero _)
    | succ n9 ih9 =>
      intro x2 i2 hx2 d_hM hmu9 hi9_0 hi9_1 H locs hM hS ls hl
      refine lv_iload_n hx hb dX5_goBy_9 rfl (lv_at hl 2 rfl) ?_
      refine lv_iconst (v := (3 : Int32)) hx hb dX5_goBy_10 (by decide) ?_
      refine z_icmp_ge (tgt := 236) hx hb hx2 kI_3 dX5_goBy_11 (by decide) (fun c_2 => ?_) (fun c_2 => ?_)
      · refine lv_aload_n hx hb dX5_goBy_236 rfl (lv_at hl 0 rfl) ?_
        refine z_get hx hb hts iwX5_goBy_5 hown hK hM.1 rfl 0 (by decide) flX5_goBy_7 rfl (v := .ref (o + 1)) rfl dX5_goBy_237 ?_
        refine lv_iconst (v := (0 : Int32)) hx hb dX5_goBy_240 (by decide) ?_
        refine lv_dup2_11 hx hb dX5_goBy_241 rfl rfl ?_
        refine z_iald (f := d_hM.2.1) hx hb hK 0 hM.2.1 rfl kI_0 (by omega) dX5_goBy_242 ?_
        have hcl3 : (d_hM.2.1 (0 : Int).toNat).toInt = τ.1.toInt := hi9_1.1.1
        refine lv_iconst (v := (1 : Int32)) hx hb dX5_goBy_243 (by decide) ?_
        refine z_iadd hx hb hcl3 kI_1 dX5_goBy_244 (by omega) (fun z4 e4 => ?_)
        refine z_iastMs hx hb hK hM hS (by simp only [iv]; omega) kI_0 (by omega) dX5_goBy_245 (fun H locs hM hsz hq hS => ?_)
        have hM : MO G H o (d_hM.1, upd d_hM.2.1 (0 : Int).toNat z4, d_hM.2.2.1, d_hM.2.2.2.1, d_hM.2.2.2.2) := hM
        exact z_rv hx hb hr hlocks ⟨_, hM, ⟨hi9_1.1.fin hok (by omega) hn9 (by assumption), hi9_1.2⟩⟩ hS dX5_goBy_246
      · have ht9 : 0 ≤ i2 ∧ i2 < 3 := by omega
        have hgo9 := hok.2.2 i2.toNat (by omega)
        have hqg := hi9_1.1.g ht9
        have hqs : ∀ k : Int, 0 ≤ k → k ≤ 8 → cR d_hM.2.1 i2 k = ((τ.2.2 i2.toNat).1 k.toNat).toInt := hqg.1
        have hwb := watZ_b hok.2.1 hgo9.sta τ.1.toInt
        have hg2 := hgo9.2.1
        have hg3 := hgo9.2.2.1
        have hmb := mul_b (a := watZ τ.2.1 (τ.2.2 i2.toNat) τ.1.toInt - ((τ.2.2 i2.toNat).1 3).toInt) (b := 100 - ((τ.2.2 i2.toNat).1 4).toInt) (A := 40000) (B := 100) (by omega) (by omega)
        have hfl := flN_b (d := (τ.2.2 i2.toNat)) (w := watZ τ.2.1 (τ.2.2 i2.toNat) τ.1.toInt) (L := 20000) hgo9.2.1.2.1 (by omega) (by omega)
        refine lv_aload_n hx hb dX5_goBy_14 rfl (lv_at hl 0 rfl) ?_
        refine z_get hx hb hts iwX5_goBy_5 hown hK hM.1 rfl 0 (by decide) flX5_goBy_7 rfl (v := .ref (o + 1)) rfl dX5_goBy_15 ?_
        refine lv_iload_n hx hb dX5_goBy_18 rfl (lv_at hl 2 rfl) ?_
        refine lv_iconst (v := (3 : Int32)) hx hb dX5_goBy_19 (by decide) ?_
        refine z_cS (As := [.int x2, .int (3 : Int32)]) (rest := [.ref (o + 1)]) ⟨hx, hb, hml, hown, hts⟩ (kX5_of l G x2 i2 hx2 (3 : Int32) (3 : Int) kI_3 (by first | assumption | omega)) (va_cwS 2 hts gX5_goBy_X5_of rfl rfl rfl hyX5_of ⟨Nat.le_of_ble_eq_true rfl, Nat.le_of_ble_eq_true rfl⟩) hK trivial rfl hl.1 rfl (Nat.le_of_ble_eq_true rfl) dX5_goBy_20 ⟨Nat.zero_le _, Nat.zero_le _⟩ (fun z5 e5 => ?_)
        have e5 : z5.toInt = 10 + 731 * i2 + (3 : Int) := e5
        refine lv_dup2_11 hx hb dX5_goBy_23 rfl rfl ?_
        refine z_iald (f := d_hM.2.1) hx hb hK 0 hM.2.1 rfl e5 (by omega) dX5_goBy_24 ?_
        have hcl6 : (d_hM.2.1 (10 + 731 * i2 + (3 : Int)).toNat).toInt = ((τ.2.2 i2.toNat).1 3).toInt := (by (repeat rw [upd_ne (by omega)]); exact hqs 3 (by omega) (by omega))
        refine lv_aload_n hx hb dX5_goBy_25 rfl (lv_at hl 0 rfl) ?_
        refine lv_iload_n hx hb dX5_goBy_26 rfl (lv_at hl 2 rfl) ?_
        refine lv_iload_n hx hb dX5_goBy_27 rfl (lv_at hl 1 rfl) ?_
        refine z_cV (As := [.int x2, .int (μ.2.1 (0 : Int).toNat)]) (rest := [.int (d_hM.2.1 (10 + 731 * i2 + (3 : Int)).toNat), .int z5, .ref (o + 1)]) ⟨hx, hb, hml, hown, hts⟩ (kX5_outsideAt l G o d_hM x2 i2 hx2 (μ.2.1 (0 : Int).toNat) τ.1.toInt hcl1 ((τ.1, τ.2.1, gpN τ i2) : SD) hi9_1.1.w hok.2.1 (by first | assumption | omega) (gpN_sta hgo9.sta) (by first | assumption | omega)) (cwV 2 hts gX5_goBy_X5_outsideAt rfl rfl rfl hyX5_outsideAt ⟨Nat.le_of_ble_eq_true rfl, Nat.le_of_ble_eq_true rfl⟩) hK hM hM.1 rfl rfl hl.1 rfl (Nat.le_of_ble_eq_true rfl) dX5_goBy_28 ⟨Nat.zero_le _, Nat.zero_le _⟩ (fun z7 e7 => ?_)
        have e7 : z7.toInt = watZ ((τ.1, τ.2.1, gpN τ i2) : SD).2.1 (((τ.1, τ.2.1, gpN τ i2) : SD).2.2 i2.toNat) τ.1.toInt := e7
        have e7 : z7.toInt = watZ τ.2.1 (τ.2.2 i2.toNat) τ.1.toInt := by rw [e7]; show watZ τ.2.1 (gpN τ i2 i2.toNat) _ = _; rw [gpN_at (by omega)]
        refine lv_aload_n hx hb dX5_goBy_31 rfl (lv_at hl 0 rfl) ?_
        refine z_get hx hb hts iwX5_goBy_5 hown hK hM.1 rfl 0 (by decide) flX5_goBy_7 rfl (v := .ref (o + 1)) rfl dX5_goBy_32 ?_
        refine lv_iload_n hx hb dX5_goBy_35 rfl (lv_at hl 2 rfl) ?_
        refine lv_iconst (v := (3 : Int32)) hx hb dX5_goBy_36 (by decide) ?_
        refine z_cS (As := [.int x2, .int (3 : Int32)]) (rest := [.ref (o + 1), .int z7, .int (d_hM.2.1 (10 + 731 * i2 + (3 : Int)).toNat), .int z5, .ref (o + 1)]) ⟨hx, hb, hml, hown, hts⟩ (kX5_of l G x2 i2 hx2 (3 : Int32) (3 : Int) kI_3 (by first | assumption | omega)) (va_cwS 2 hts gX5_goBy_X5_of rfl rfl rfl hyX5_of ⟨Nat.le_of_ble_eq_true rfl, Nat.le_of_ble_eq_true rfl⟩) hK trivial rfl hl.1 rfl (Nat.le_of_ble_eq_true rfl) dX5_goBy_37 ⟨Nat.zero_le _, Nat.zero_le _⟩ (fun z8 e8 => ?_)
        have e8 : z8.toInt = 10 + 731 * i2 + (3 : Int) := e8
        refine z_iald (f := d_hM.2.1) hx hb hK 0 hM.2.1 rfl e8 (by omega) dX5_goBy_40 ?_
        have hcl9 : (d_hM.2.1 (10 + 731 * i2 + (3 : Int)).toNat).toInt = ((τ.2.2 i2.toNat).1 3).toInt := (by (repeat rw [upd_ne (by omega)]); exact hqs 3 (by omega) (by omega))
        refine z_isub hx hb e7 hcl9 dX5_goBy_41 (by omega) (fun z10 e10 => ?_)
        refine lv_bipush (v := (100 : Int32)) hx hb dX5_goBy_42 (by decide) ?_
        refine lv_aload_n hx hb dX5_goBy_44 rfl (lv_at hl 0 rfl) ?_
        refine z_get hx hb hts iwX5_goBy_5 hown hK hM.1 rfl 0 (by decide) flX5_goBy_7 rfl (v := .ref (o + 1)) rfl dX5_goBy_45 ?_
        refine lv_iload_n hx hb dX5_goBy_48 rfl (lv_at hl 2 rfl) ?_
        refine lv_iconst (v := (4 : Int32)) hx hb dX5_goBy_49 (by decide) ?_
        refine z_cS (As := [.int x2, .int (4 : Int32)]) (rest := [.ref (o + 1), .int (100 : Int32), .int z10, .int (d_hM.2.1 (10 + 731 * i2 + (3 : Int)).toNat), .int z5, .ref (o + 1)]) ⟨hx, hb, hml, hown, hts⟩ (kX5_of l G x2 i2 hx2 (4 : Int32) (4 : Int) kI_4 (by first | assumption | omega)) (va_cwS 2 hts gX5_goBy_X5_of rfl rfl rfl hyX5_of ⟨Nat.le_of_ble_eq_true rfl, Nat.le_of_ble_eq_true rfl⟩) hK trivial rfl hl.1 rfl (Nat.le_of_ble_eq_true rfl) dX5_goBy_50 ⟨Nat.zero_le _, Nat.zero_le _⟩ (fun z11 e11 => ?_)
        have e11 : z11.toInt = 10 + 731 * i2 + (4 : Int) := e11
        refine z_iald (f := d_hM.2.1) hx hb hK 0 hM.2.1 rfl e11 (by omega) dX5_goBy_53 ?_
        have hcl12 : (d_hM.2.1 (10 + 731 * i2 + (4 : Int)).toNat).toInt = ((τ.2.2 i2.toNat).1 4).toInt := (by (repeat rw [upd_ne (by omega)]); exact hqs 4 (by omega) (by omega))
        refine z_isub hx hb kI_100 hcl12 dX5_goBy_54 (by omega) (fun z13 e13 => ?_)
        refine z_imul hx hb e10 e13 dX5_goBy_55 (by omega) (fun z14 e14 => ?_)
        refine lv_bipush (v := (100 : Int32)) hx hb dX5_goBy_56 (by decide) ?_
        refine z_cS (As := [.int z14, .int (100 : Int32)]) (rest := [.int (d_hM.2.1 (10 + 731 * i2 + (3 : Int)).toNat), .int z5, .ref (o + 1)]) ⟨hx, hb, hml, hown, hts⟩ (kX5_divide l G z14 (((watZ τ.2.1 (τ.2.2 i2.toNat) τ.1.toInt) - (((τ.2.2 i2.toNat).1 3).toInt)) * ((100 : Int) - (((τ.2.2 i2.toNat).1 4).toInt))) e14 (100 : Int32) (100 : Int) kI_100 (by first | assumption | omega)) (va_cwS 2 hts gX5_goBy_X5_divide rfl rfl rfl hyX5_divide ⟨Nat.le_of_ble_eq_true rfl, Nat.le_of_ble_eq_true rfl⟩) hK trivial rfl hl.1 rfl (Nat.le_of_ble_eq_true rfl) dX5_goBy_58 ⟨Nat.zero_le _, Nat.zero_le _⟩ (fun z15 e15 => ?_)
        have e15 : z15.toInt = (((watZ τ.2.1 (τ.2.2 i2.toNat) τ.1.toInt) - (((τ.2.2 i2.toNat).1 3).toInt)) * ((100 : Int) - (((τ.2.2 i2.toNat).1 4).toInt))) / (100 : Int) := e15
        refine z_iadd hx hb hcl6 e15 dX5_goBy_61 (by omega) (fun z16 e16 => ?_)
        have e16 : z16.toInt = flN (τ.2.2 i2.toNat) (watZ τ.2.1 (τ.2.2 i2.toNat) τ.1.toInt) := by rw [e16]; rfl
        refine z_iastMs hx hb hK hM hS (by simp only [iv]; omega) e5 (by omega) dX5_goBy_62 (fun H locs hM hsz hq hS => ?_)
        have hM : MO G H o (d_hM.1, upd d_hM.2.1 (10 + 731 * i2 + (3 : Int)).toNat z16, d_hM.2.2.1, d_hM.2.2.2.1, d_hM.2.2.2.2) := hM
        refine lv_aload_n hx hb dX5_goBy_63 rfl (lv_at hl 0 rfl) ?_
        refine z_get hx hb hts iwX5_goBy_5 hown hK hM.1 rfl 0 (by decide) flX5_goBy_7 rfl (v := .ref (o + 1)) rfl dX5_goBy_64 ?_
        refine lv_iload_n hx hb dX5_goBy_67 rfl (lv_at hl 2 rfl) ?_
        refine lv_bipush (v := (8 : Int32)) hx hb dX5_goBy_68 (by decide) ?_
        refine z_cS (As := [.int x2, .int (8 : Int32)]) (rest := [.ref (o + 1)]) ⟨hx, hb, hml, hown, hts⟩ (kX5_of l G x2 i2 hx2 (8 : Int32) (8 : Int) kI_8 (by first | assumption | omega)) (va_cwS 2 hts gX5_goBy_X5_of rfl rfl rfl hyX5_of ⟨Nat.le_of_ble_eq_true rfl, Nat.le_of_ble_eq_true rfl⟩) hK trivial rfl hl.1 rfl (Nat.le_of_ble_eq_true rfl) dX5_goBy_70 ⟨Nat.zero_le _, Nat.zero_le _⟩ (fun z17 e17 => ?_)
        have e17 : z17.toInt = 10 + 731 * i2 + (8 : Int) := e17
        refine z_iald (f := upd d_hM.2.1 (10 + 731 * i2 + (3 : Int)).toNat z16) hx hb hK 0 hM.2.1 rfl e17 (by omega) dX5_goBy_73 ?_
        have hcl18 : ((upd d_hM.2.1 (10 + 731 * i2 + (3 : Int)).toNat z16) (10 + 731 * i2 + (8 : Int)).toNat).toInt = ((τ.2.2 i2.toNat).1 8).toInt := (by (repeat rw [upd_ne (by omega)]); exact hqs 8 (by omega) (by omega))
        refine lv_iconst (v := (1 : Int32)) hx hb dX5_goBy_74 (by decide) ?_
        refine z_icmp_ne (tgt := 128) hx hb hcl18 kI_1 dX5_goBy_75 (by decide) (fun c_19 => ?_) (fun c_19 => ?_)
        · refine lv_aload_n hx hb dX5_goBy_128 rfl (lv_at hl 0 rfl) ?_
          refine z_get hx hb hts iwX5_goBy_5 hown hK hM.1 rfl 0 (by decide) flX5_goBy_7 rfl (v := .ref (o + 1)) rfl dX5_goBy_129 ?_
          refine lv_iload_n hx hb dX5_goBy_132 rfl (lv_at hl 2 rfl) ?_
          refine lv_iconst (v := (5 : Int32)) hx hb dX5_goBy_133 (by decide) ?_
          refine z_cS (As := [.int x2, .int (5 : Int32)]) (rest := [.ref (o + 1)]) ⟨hx, hb, hml, hown, hts⟩ (kX5_of l G x2 i2 hx2 (5 : Int32) (5 : Int) kI_5 (by first | assumption | omega)) (va_cwS 2 hts gX5_goBy_X5_of rfl rfl rfl hyX5_of ⟨Nat.le_of_ble_eq_true rfl, Nat.le_of_ble_eq_true rfl⟩) hK trivial rfl hl.1 rfl (Nat.le_of_ble_eq_true rfl) dX5_goBy_134 ⟨Nat.zero_le _, Nat.zero_le _⟩ (fun z20 e20 => ?_)
          have e20 : z20.toInt = 10 + 731 * i2 + (5 : Int) := e20
          refine z_iald (f := upd d_hM.2.1 (10 + 731 * i2 + (3 : Int)).toNat z16) hx hb hK 0 hM.2.1 rfl e20 (by omega) dX5_goBy_137 ?_
          have hcl21 : ((upd d_hM.2.1 (10 + 731 * i2 + (3 : Int)).toNat z16) (10 + 731 * i2 + (5 : Int)).toNat).toInt = ((τ.2.2 i2.toNat).1 5).toInt := (by (repeat rw [upd_ne (by omega)]); exact hqs 5 (by omega) (by omega))
          refine lv_istore_n hx hb dX5_goBy_138 rfl hl (by decide) rfl (fun ls hl => ?_)
          have hl : lv_has ls 5 [(3, .int ((upd d_hM.2.1 (10 + 731 * i2 + (3 : Int)).toNat z16) (10 + 731 * i2 + (5 : Int)).toNat)), (0, .ref o), (1, .int (μ.2.1 (0 : Int).toNat)), (2, .int x2)] := hl
          refine lv_aload_n hx hb dX5_goBy_139 rfl (lv_at hl 1 rfl) ?_
          refine z_get hx hb hts iwX5_goBy_5 hown hK hM.1 rfl 0 (by decide) flX5_goBy_7 rfl (v := .ref (o + 1)) rfl dX5_goBy_140 ?_
          refine lv_iload_n hx hb dX5_goBy_143 rfl (lv_at hl 3 rfl) ?_
          refine lv_bipush (v := (6 : Int32)) hx hb dX5_goBy_144 (by decide) ?_
          refine z_cS (As := [.int x2, .int (6 : Int32)]) (rest := [.ref (o + 1)]) ⟨hx, hb, hml, hown, hts⟩ (kX5_of l G x2 i2 hx2 (6 : Int32) (6 : Int) kI_6 (by first | assumption | omega)) (va_cwS 2 hts gX5_goBy_X5_of rfl rfl rfl hyX5_of ⟨Nat.le_of_ble_eq_true rfl, Nat.le_of_ble_eq_true rfl⟩) hK trivial rfl hl.1 rfl (Nat.le_of_ble_eq_true rfl) dX5_goBy_146 ⟨Nat.zero_le _, Nat.zero_le _⟩ (fun z22 e22 => ?_)
          have e22 : z22.toInt = 10 + 731 * i2 + (6 : Int) := e22
          refine z_iald (f := upd d_hM.2.1 (10 + 731 * i2 + (3 : Int)).toNat z16) hx hb hK 0 hM.2.1 rfl e22 (by omega) dX5_goBy_149 ?_
          have hcl23 : ((upd d_hM.2.1 (10 + 731 * i2 + (3 : Int)).toNat z16) (10 + 731 * i2 + (6 : Int)).toNat).toInt = ((τ.2.2 i2.toNat).1 6).toInt := (by (repeat rw [upd_ne (by omega)]); exact hqs 6 (by omega) (by omega))
          refine lv_istore hx hb dX5_goBy_150 hl (by decide) rfl (fun ls hl => ?_)
          have hl : lv_has ls 5 [(4, .int ((upd d_hM.2.1 (10 + 731 * i2 + (3 : Int)).toNat z16) (10 + 731 * i2 + (6 : Int)).toNat)), (3, .int ((upd d_hM.2.1 (10 + 731 * i2 + (3 : Int)).toNat z16) (10 + 731 * i2 + (5 : Int)).toNat)), (0, .ref o), (1, .int (μ.2.1 (0 : Int).toNat)), (2, .int x2)] := hl
          refine lv_aload_n hx hb dX5_goBy_152 rfl (lv_at hl 2 rfl) ?_
          refine z_get hx hb hts iwX5_goBy_5 hown hK hM.1 rfl 0 (by decide) flX5_goBy_7 rfl (v := .ref (o + 1)) rfl dX5_goBy_153 ?_
          refine lv_iload_n hx hb dX5_goBy_156 rfl (lv_at hl 4 rfl) ?_
          refine lv_iconst (v := (4 : Int32)) hx hb dX5_goBy_157 (by decide) ?_
          refine z_cS (As := [.int x2, .int (4 : Int32)]) (rest := [.ref (o + 1)]) ⟨hx, hb, hml, hown, hts⟩ (kX5_of l G x2 i2 hx2 (4 : Int32) (4 : Int) kI_4 (by first | assumption | omega)) (va_cwS 2 hts gX5_goBy_X5_of rfl rfl rfl hyX5_of ⟨Nat.le_of_ble_eq_true rfl, Nat.le_of_ble_eq_true rfl⟩) hK trivial rfl hl.1 rfl (Nat.le_of_ble_eq_true rfl) dX5_goBy_158 ⟨Nat.zero_le _, Nat.zero_le _⟩ (fun z24 e24 => ?_)
          have e24 : z24.toInt = 10 + 731 * i2 + (4 : Int) := e24
          refine lv_dup2_11 hx hb dX5_goBy_161 rfl rfl ?_
          refine z_iald (f := upd d_hM.2.1 (10 + 731 * i2 + (3 : Int)).toNat z16) hx hb hK 0 hM.2.1 rfl e24 (by omega) dX5_goBy_162 ?_
          have hcl25 : ((upd d_hM.2.1 (10 + 731 * i2 + (3 : Int)).toNat z16) (10 + 731 * i2 + (4 : Int)).toNat).toInt = ((τ.2.2 i2.toNat).1 4).toInt := (by (repeat rw [upd_ne (by omega)]); exact hqs 4 (by omega) (by omega))
          refine lv_iload_n hx hb dX5_goBy_163 rfl (lv_at hl 1 rfl) ?_
          refine z_if_le (tgt := 194) hx hb hcl21 dX5_goBy_164 (by decide) (fun c_26 => ?_) (fun c_26 => ?_)
          · have hs4 := siltN_f1 (d := (τ.2.2 i2.toNat)) (h := τ.1.toInt) (fun q => by omega)
            refine lv_iconst (v := (0 : Int32)) hx hb dX5_goBy_194 (by decide) ?_
            refine z_iadd hx hb hcl25 kI_0 dX5_goBy_195 (by omega) (fun z27 e27 => ?_)
            have e27 : z27.toInt = siltN (τ.2.2 i2.toNat) τ.1.toInt := by rw [e27]; omega
            refine z_iastMs hx hb hK hM hS (by simp only [iv]; omega) e24 (by omega) dX5_goBy_196 (fun H locs hM hsz hq hS => ?_)
            have hM : MO G H o (d_hM.1, upd (upd d_hM.2.1 (10 + 731 * i2 + (3 : Int)).toNat z16) (10 + 731 * i2 + (4 : Int)).toNat z27, d_hM.2.2.1, d_hM.2.2.2.1, d_hM.2.2.2.2) := hM
            refine lv_aload_n hx hb dX5_goBy_197 rfl (lv_at hl 2 rfl) ?_
            refine z_get hx hb hts iwX5_goBy_5 hown hK hM.1 rfl 0 (by decide) flX5_goBy_7 rfl (v := .ref (o + 1)) rfl dX5_goBy_198 ?_
            refine lv_iload_n hx hb dX5_goBy_201 rfl (lv_at hl 4 rfl) ?_
            refine lv_bipush (v := (7 : Int32)) hx hb dX5_goBy_202 (by decide) ?_
            refine z_cS (As := [.int x2, .int (7 : Int32)]) (rest := [.ref (o + 1)]) ⟨hx, hb, hml, hown, hts⟩ (kX5_of l G x2 i2 hx2 (7 : Int32) (7 : Int) kI_7 (by first | assumption | omega)) (va_cwS 2 hts gX5_goBy_X5_of rfl rfl rfl hyX5_of ⟨Nat.le_of_ble_eq_true rfl, Nat.le_of_ble_eq_true rfl⟩) hK trivial rfl hl.1 rfl (Nat.le_of_ble_eq_true rfl) dX5_goBy_204 ⟨Nat.zero_le _, Nat.zero_le _⟩ (fun z28 e28 => ?_)
            have e28 : z28.toInt = 10 + 731 * i2 + (7 : Int) := e28
            refine lv_dup2_11 hx hb dX5_goBy_207 rfl rfl ?_
            refine z_iald (f := upd (upd d_hM.2.1 (10 + 731 * i2 + (3 : Int)).toNat z16) (10 + 731 * i2 + (4 : Int)).toNat z27) hx hb hK 0 hM.2.1 rfl e28 (by omega) dX5_goBy_208 ?_
            have hcl29 : ((upd (upd d_hM.2.1 (10 + 731 * i2 + (3 : Int)).toNat z16) (10 + 731 * i2 + (4 : Int)).toNat z27) (10 + 731 * i2 + (7 : Int)).toNat).toInt = ((τ.2.2 i2.toNat).1 7).toInt := (by (repeat rw [upd_ne (by omega)]); exact hqs 7 (by omega) (by omega))
            refine lv_iload hx hb dX5_goBy_209 (lv_at hl 0 rfl) ?_
            refine z_if_le (tgt := 227) hx hb hcl23 dX5_goBy_211 (by decide) (fun c_30 => ?_) (fun c_30 => ?_)
            · have hs7 := sunkN_f (d := (τ.2.2 i2.toNat)) (h := τ.1.toInt) (fun q => by omega)
              refine lv_iconst (v := (0 : Int32)) hx hb dX5_goBy_227 (by decide) ?_
              refine z_iadd hx hb hcl29 kI_0 dX5_goBy_228 (by omega) (fun z31 e31 => ?_)
              have e31 : z31.toInt = sunkN (τ.2.2 i2.toNat) τ.1.toInt := by rw [e31]; omega
              refine z_iastMs hx hb hK hM hS (by simp only [iv]; omega) e28 (by omega) dX5_goBy_229 (fun H locs hM hsz hq hS => ?_)
              have hM : MO G H o (d_hM.1, upd (upd (upd d_hM.2.1 (10 + 731 * i2 + (3 : Int)).toNat z16) (10 + 731 * i2 + (4 : Int)).toNat z27) (10 + 731 * i2 + (7 : Int)).toNat z31, d_hM.2.2.1, d_hM.2.2.2.1, d_hM.2.2.2.2) := hM
              refine z_iinc (k := 4) hx hb dX5_goBy_230 hl rfl hx2 (show (Int32.ofInt 1).toInt = (1 : Int) from rfl) (by omega) (by decide) (fun z32 e32 ls hl => ?_)
              have hl : lv_has ls 5 [(2, .int z32), (4, .int ((upd d_hM.2.1 (10 + 731 * i2 + (3 : Int)).toNat z16) (10 + 731 * i2 + (6 : Int)).toNat)), (3, .int ((upd d_hM.2.1 (10 + 731 * i2 + (3 : Int)).toNat z16) (10 + 731 * i2 + (5 : Int)).toNat)), (0, .ref o), (1, .int (μ.2.1 (0 : Int).toNat))] := hl
              refine lv_goto (tgt := 9) hx hb dX5_goBy_233 (by decide) ?_
              exact ih9 z32 (i2 + (1 : Int)) e32 (d_hM.1, upd (upd (upd d_hM.2.1 (10 + 731 * i2 + (3 : Int)).toNat z16) (10 + 731 * i2 + (4 : Int)).toNat z27) (10 + 731 * i2 + (7 : Int)).toNat z31, d_hM.2.2.1, d_hM.2.2.2.1, d_hM.2.2.2.2) (by omega) (by omega) ⟨hi9_1.1.off hok ht9 hn9 (by assumption) (by assumption) (by assumption) (by assumption), hi9_1.2⟩ _ _ hM hS ls (lv_sub hl [3, 4, 0] rfl)
            · refine lv_iload_n hx hb dX5_goBy_214 rfl (lv_at hl 3 rfl) ?_
              refine lv_iconst (v := (1 : Int32)) hx hb dX5_goBy_215 (by decide) ?_
              refine z_iadd hx hb hcl1 kI_1 dX5_goBy_216 (by omega) (fun z33 e33 => ?_)
              refine lv_iload hx hb dX5_goBy_217 (lv_at hl 0 rfl) ?_
              refine z_iremp hx hb e33 hcl23 dX5_goBy_219 (by omega) (fun z34 e34 => ?_)
              refine z_if_ne (tgt := 227) hx hb e34 dX5_goBy_220 (by decide) (fun c_35 => ?_) (fun c_35 => ?_)
              · have hs7 := sunkN_f (d := (τ.2.2 i2.toNat)) (h := τ.1.toInt) (fun q => c_35 q.2)
                refine lv_iconst (v := (0 : Int32)) hx hb dX5_goBy_227 (by decide) ?_
                refine z_iadd hx hb hcl29 kI_0 dX5_goBy_228 (by omega) (fun z36 e36 => ?_)
                have e36 : z36.toInt = sunkN (τ.2.2 i2.toNat) τ.1.toInt := by rw [e36]; omega
                refine z_iastMs hx hb hK hM hS (by simp only [iv]; omega) e28 (by omega) dX5_goBy_229 (fun H locs hM hsz hq hS => ?_)
                have hM : MO G H o (d_hM.1, upd (upd (upd d_hM.2.1 (10 + 731 * i2 + (3 : Int)).toNat z16) (10 + 731 * i2 + (4 : Int)).toNat z27) (10 + 731 * i2 + (7 : Int)).toNat z36, d_hM.2.2.1, d_hM.2.2.2.1, d_hM.2.2.2.2) := hM
                refine z_iinc (k := 4) hx hb dX5_goBy_230 hl rfl hx2 (show (Int32.ofInt 1).toInt = (1 : Int) from rfl) (by omega) (by decide) (fun z37 e37 ls hl => ?_)
                have hl : lv_has ls 5 [(2, .int z37), (4, .int ((upd d_hM.2.1 (10 + 731 * i2 + (3 : Int)).toNat z16) (10 + 731 * i2 + (6 : Int)).toNat)), (3, .int ((upd d_hM.2.1 (10 + 731 * i2 + (3 : Int)).toNat z16) (10 + 731 * i2 + (5 : Int)).toNat)), (0, .ref o), (1, .int (μ.2.1 (0 : Int).toNat))] := hl
                refine lv_goto (tgt := 9) hx hb dX5_goBy_233 (by decide) ?_
                exact ih9 z37 (i2 + (1 : Int)) e37 (d_hM.1, upd (upd (upd d_hM.2.1 (10 + 731 * i2 + (3 : Int)).toNat z16) (10 + 731 * i2 + (4 : Int)).toNat z27) (10 + 731 * i2 + (7 : Int)).toNat z36, d_hM.2.2.1, d_hM.2.2.2.1, d_hM.2.2.2.2) (by omega) (by omega) ⟨hi9_1.1.off hok ht9 hn9 (by assumption) (by assumption) (by assumption) (by assumption), hi9_1.2⟩ _ _ hM hS ls (lv_sub hl [3, 4, 0] rfl)
              · have hs7 := sunkN_t (d := (τ.2.2 i2.toNat)) (h := τ.1.toInt) ⟨by omega, c_35⟩
                refine lv_iconst (v := (1 : Int32)) hx hb dX5_goBy_223 (by decide) ?_
                refine lv_goto (tgt := 228) hx hb dX5_goBy_224 (by decide) ?_
                refine z_iadd hx hb hcl29 kI_1 dX5_goBy_228 (by omega) (fun z38 e38 => ?_)
                have e38 : z38.toInt = sunkN (τ.2.2 i2.toNat) τ.1.toInt := by rw [e38]; omega
                refine z_iastMs hx hb hK hM hS (by simp only [iv]; omega) e28 (by omega) dX5_goBy_229 (fun H locs hM hsz hq hS => ?_)
                have hM : MO G H o (d_hM.1, upd (upd (upd d_hM.2.1 (10 + 731 * i2 + (3 : Int)).toNat z16) (10 + 731 * i2 + (4 : Int)).toNat z27) (10 + 731 * i2 + (7 : Int)).toNat z38, d_hM.2.2.1, d_hM.2.2.2.1, d_hM.2.2.2.2) := hM
                refine z_iinc (k := 4) hx hb dX5_goBy_230 hl rfl hx2 (show (Int32.ofInt 1).toInt = (1 : Int) from rfl) (by omega) (by decide) (fun z39 e39 ls hl => ?_)
                have hl : lv_has ls 5 [(2, .int z39), (4, .int ((upd d_hM.2.1 (10 + 731 * i2 + (3 : Int)).toNat z16) (10 + 731 * i2 + (6 : Int)).toNat)), (3, .int ((upd d_hM.2.1 (10 + 731 * i2 + (3 : Int)).toNat z16) (10 + 731 * i2 + (5 : Int)).toNat)), (0, .ref o), (1, .int (μ.2.1 (0 : Int).toNat))] := hl
                refine lv_goto (tgt := 9) hx hb dX5_goBy_233 (by decide) ?_
                exact ih9 z39 (i2 + (1 : Int)) e39 (d_hM.1, upd (upd (upd d_hM.2.1 (10 + 731 * i2 + (3 : Int)).toNat z16) (10 + 731 * i2 + (4 : Int)).toNat z27) (10 + 731 * i2 + (7 : Int)).toNat z38, d_hM.2.2.1, d_hM.2.2.2.1, d_hM.2.2.2.2) (by omega) (by omega) ⟨hi9_1.1.off hok ht9 hn9 (by assumption) (by assumption) (by assumption) (by assumption), hi9_1.2⟩ _ _ hM hS ls (lv_sub hl [3, 4, 0] rfl)
          · refine lv_iload_n hx hb dX5_goBy_167 rfl (lv_at hl 3 rfl) ?_
            refine lv_iconst (v := (1 : Int32)) hx hb dX5_goBy_168 (by decide) ?_
            refine z_iadd hx hb hcl1 kI_1 dX5_goBy_169 (by omega) (fun z40 e40 => ?_)
            refine lv_iload_n hx hb dX5_goBy_170 rfl (lv_at hl 1 rfl) ?_
            refine z_iremp hx hb e40 hcl21 dX5_goBy_171 (by omega) (fun z41 e41 => ?_)
            refine z_if_ne (tgt := 194) hx hb e41 dX5_goBy_172 (by decide) (fun c_42 => ?_) (fun c_42 => ?_)
            · have hs4 := siltN_f1 (d := (τ.2.2 i2.toNat)) (h := τ.1.toInt) (fun q => c_42 q.2)
              refine lv_iconst (v := (0 : Int32)) hx hb dX5_goBy_194 (by decide) ?_
              refine z_iadd hx hb hcl25 kI_0 dX5_goBy_195 (by omega) (fun z43 e43 => ?_)
              have e43 : z43.toInt = siltN (τ.2.2 i2.toNat) τ.1.toInt := by rw [e43]; omega
              refine z_iastMs hx hb hK hM hS (by simp only [iv]; omega) e24 (by omega) dX5_goBy_196 (fun H locs hM hsz hq hS => ?_)
              have hM : MO G H o (d_hM.1, upd (upd d_hM.2.1 (10 + 731 * i2 + (3 : Int)).toNat z16) (10 + 731 * i2 + (4 : Int)).toNat z43, d_hM.2.2.1, d_hM.2.2.2.1, d_hM.2.2.2.2) := hM
              refine lv_aload_n hx hb dX5_goBy_197 rfl (lv_at hl 2 rfl) ?_
              refine z_get hx hb hts iwX5_goBy_5 hown hK hM.1 rfl 0 (by decide) flX5_goBy_7 rfl (v := .ref (o + 1)) rfl dX5_goBy_198 ?_
              refine lv_iload_n hx hb dX5_goBy_201 rfl (lv_at hl 4 rfl) ?_
              refine lv_bipush (v := (7 : Int32)) hx hb dX5_goBy_202 (by decide) ?_
              refine z_cS (As := [.int x2, .int (7 : Int32)]) (rest := [.ref (o + 1)]) ⟨hx, hb, hml, hown, hts⟩ (kX5_of l G x2 i2 hx2 (7 : Int32) (7 : Int) kI_7 (by first | assumption | omega)) (va_cwS 2 hts gX5_goBy_X5_of rfl rfl rfl hyX5_of ⟨Nat.le_of_ble_eq_true rfl, Nat.le_of_ble_eq_true rfl⟩) hK trivial rfl hl.1 rfl (Nat.le_of_ble_eq_true rfl) dX5_goBy_204 ⟨Nat.zero_le _, Nat.zero_le _⟩ (fun z44 e44 => ?_)
              have e44 : z44.toInt = 10 + 731 * i2 + (7 : Int) := e44
              refine lv_dup2_11 hx hb dX5_goBy_207 rfl rfl ?_
              refine z_iald (f := upd (upd d_hM.2.1 (10 + 731 * i2 + (3 : Int)).toNat z16) (10 + 731 * i2 + (4 : Int)).toNat z43) hx hb hK 0 hM.2.1 rfl e44 (by omega) dX5_goBy_208 ?_
              have hcl45 : ((upd (upd d_hM.2.1 (10 + 731 * i2 + (3 : Int)).toNat z16) (10 + 731 * i2 + (4 : Int)).toNat z43) (10 + 731 * i2 + (7 : Int)).toNat).toInt = ((τ.2.2 i2.toNat).1 7).toInt := (by (repeat rw [upd_ne (by omega)]); exact hqs 7 (by omega) (by omega))
              refine lv_iload hx hb dX5_goBy_209 (lv_at hl 0 rfl) ?_
              refine z_if_le (tgt := 227) hx hb hcl23 dX5_goBy_211 (by decide) (fun c_46 => ?_) (fun c_46 => ?_)
              · have hs7 := sunkN_f (d := (τ.2.2 i2.toNat)) (h := τ.1.toInt) (fun q => by omega)
                refine lv_iconst (v := (0 : Int32)) hx hb dX5_goBy_227 (by decide) ?_
                refine z_iadd hx hb hcl45 kI_0 dX5_goBy_228 (by omega) (fun z47 e47 => ?_)
                have e47 : z47.toInt = sunkN (τ.2.2 i2.toNat) τ.1.toInt := by rw [e47]; omega
                refine z_iastMs hx hb hK hM hS (by simp only [iv]; omega) e44 (by omega) dX5_goBy_229 (fun H locs hM hsz hq hS => ?_)
                have hM : MO G H o (d_hM.1, upd (upd (upd d_hM.2.1 (10 + 731 * i2 + (3 : Int)).toNat z16) (10 + 731 * i2 + (4 : Int)).toNat z43) (10 + 731 * i2 + (7 : Int)).toNat z47, d_hM.2.2.1, d_hM.2.2.2.1, d_hM.2.2.2.2) := hM
                refine z_iinc (k := 4) hx hb dX5_goBy_230 hl rfl hx2 (show (Int32.ofInt 1).toInt = (1 : Int) from rfl) (by omega) (by decide) (fun z48 e48 ls hl => ?_)
                have hl : lv_has ls 5 [(2, .int z48), (4, .int ((upd d_hM.2.1 (10 + 731 * i2 + (3 : Int)).toNat z16) (10 + 731 * i2 + (6 : Int)).toNat)), (3, .int ((upd d_hM.2.1 (10 + 731 * i2 + (3 : Int)).toNat z16) (10 + 731 * i2 + (5 : Int)).toNat)), (0, .ref o), (1, .int (μ.2.1 (0 : Int).toNat))] := hl
                refine lv_goto (tgt := 9) hx hb dX5_goBy_233 (by decide) ?_
                exact ih9 z48 (i2 + (1 : Int)) e48 (d_hM.1, upd (upd (upd d_hM.2.1 (10 + 731 * i2 + (3 : Int)).toNat z16) (10 + 731 * i2 + (4 : Int)).toNat z43) (10 + 731 * i2 + (7 : Int)).toNat z47, d_hM.2.2.1, d_hM.2.2.2.1, d_hM.2.2.2.2) (by omega) (by omega) ⟨hi9_1.1.off hok ht9 hn9 (by assumption) (by assumption) (by assumption) (by assumption), hi9_1.2⟩ _ _ hM hS ls (lv_sub hl [3, 4, 0] rfl)
              · refine lv_iload_n hx hb dX5_goBy_214 rfl (lv_at hl 3 rfl) ?_
                refine lv_iconst (v := (1 : Int32)) hx hb dX5_goBy_215 (by decide) ?_
                refine z_iadd hx hb hcl1 kI_1 dX5_goBy_216 (by omega) (fun z49 e49 => ?_)
                refine lv_iload hx hb dX5_goBy_217 (lv_at hl 0 rfl) ?_
                refine z_iremp hx hb e49 hcl23 dX5_goBy_219 (by omega) (fun z50 e50 => ?_)
                refine z_if_ne (tgt := 227) hx hb e50 dX5_goBy_220 (by decide) (fun c_51 => ?_) (fun c_51 => ?_)
                · have hs7 := sunkN_f (d := (τ.2.2 i2.toNat)) (h := τ.1.toInt) (fun q => c_51 q.2)
                  refine lv_iconst (v := (0 : Int32)) hx hb dX5_goBy_227 (by decide) ?_
                  refine z_iadd hx hb hcl45 kI_0 dX5_goBy_228 (by omega) (fun z52 e52 => ?_)
                  have e52 : z52.toInt = sunkN (τ.2.2 i2.toNat) τ.1.toInt := by rw [e52]; omega
                  refine z_iastMs hx hb hK hM hS (by simp only [iv]; omega) e44 (by omega) dX5_goBy_229 (fun H locs hM hsz hq hS => ?_)
                  have hM : MO G H o (d_hM.1, upd (upd (upd d_hM.2.1 (10 + 731 * i2 + (3 : Int)).toNat z16) (10 + 731 * i2 + (4 : Int)).toNat z43) (10 + 731 * i2 + (7 : Int)).toNat z52, d_hM.2.2.1, d_hM.2.2.2.1, d_hM.2.2.2.2) := hM
                  refine z_iinc (k := 4) hx hb dX5_goBy_230 hl rfl hx2 (show (Int32.ofInt 1).toInt = (1 : Int) from rfl) (by omega) (by decide) (fun z53 e53 ls hl => ?_)
                  have hl : lv_has ls 5 [(2, .int z53), (4, .int ((upd d_hM.2.1 (10 + 731 * i2 + (3 : Int)).toNat z16) (10 + 731 * i2 + (6 : Int)).toNat)), (3, .int ((upd d_hM.2.1 (10 + 731 * i2 + (3 : Int)).toNat z16) (10 + 731 * i2 + (5 : Int)).toNat)), (0, .ref o), (1, .int (μ.2.1 (0 : Int).toNat))] := hl
                  refine lv_goto (tgt := 9) hx hb dX5_goBy_233 (by decide) ?_
                  exact ih9 z53 (i2 + (1 : Int)) e53 (d_hM.1, upd (upd (upd d_hM.2.1 (10 + 731 * i2 + (3 : Int)).toNat z16) (10 + 731 * i2 + (4 : Int)).toNat z43) (10 + 731 * i2 + (7 : Int)).toNat z52, d_hM.2.2.1, d_hM.2.2.2.1, d_hM.2.2.2.2) (by omega) (by omega) ⟨hi9_1.1.off hok ht9 hn9 (by assumption) (by assumption) (by assumption) (by assumption), hi9_1.2⟩ _ _ hM hS ls (lv_sub hl [3, 4, 0] rfl)
                · have hs7 := sunkN_t (d := (τ.2.2 i2.toNat)) (h := τ.1.toInt) ⟨by omega, c_51⟩
                  refine lv_iconst (v := (1 : Int32)) hx hb dX5_goBy_223 (by decide) ?_
                  refine lv_goto (tgt := 228) hx hb dX5_goBy_224 (by decide) ?_
                  refine z_iadd hx hb hcl45 kI_1 dX5_goBy_228 (by omega) (fun z54 e54 => ?_)
                  have e54 : z54.toInt = sunkN (τ.2.2 i2.toNat) τ.1.toInt := by rw [e54]; omega
                  refine z_iastMs hx hb hK hM hS (by simp only [iv]; omega) e44 (by omega) dX5_goBy_229 (fun H locs hM hsz hq hS => ?_)
                  have hM : MO G H o (d_hM.1, upd (upd (upd d_hM.2.1 (10 + 731 * i2 + (3 : Int)).toNat z16) (10 + 731 * i2 + (4 : Int)).toNat z43) (10 + 731 * i2 + (7 : Int)).toNat z54, d_hM.2.2.1, d_hM.2.2.2.1, d_hM.2.2.2.2) := hM
                  refine z_iinc (k := 4) hx hb dX5_goBy_230 hl rfl hx2 (show (Int32.ofInt 1).toInt = (1 : Int) from rfl) (by omega) (by decide) (fun z55 e55 ls hl => ?_)
                  have hl : lv_has ls 5 [(2, .int z55), (4, .int ((upd d_hM.2.1 (10 + 731 * i2 + (3 : Int)).toNat z16) (10 + 731 * i2 + (6 : Int)).toNat)), (3, .int ((upd d_hM.2.1 (10 + 731 * i2 + (3 : Int)).toNat z16) (10 + 731 * i2 + (5 : Int)).toNat)), (0, .ref o), (1, .int (μ.2.1 (0 : Int).toNat))] := hl
                  refine lv_goto (tgt := 9) hx hb dX5_goBy_233 (by decide) ?_
                  exact ih9 z55 (i2 + (1 : Int)) e55 (d_hM.1, upd (upd (upd d_hM.2.1 (10 + 731 * i2 + (3 : Int)).toNat z16) (10 + 731 * i2 + (4 : Int)).toNat z43) (10 + 731 * i2 + (7 : Int)).toNat z54, d_hM.2.2.1, d_hM.2.2.2.1, d_hM.2.2.2.2) (by omega) (by omega) ⟨hi9_1.1.off hok ht9 hn9 (by assumption) (by assumption) (by assumption) (by assumption), hi9_1.2⟩ _ _ hM hS ls (lv_sub hl [3, 4, 0] rfl)
            · have hA4 := c_42
              refine lv_aload_n hx hb dX5_goBy_175 rfl (lv_at hl 2 rfl) ?_
              refine z_get hx hb hts iwX5_goBy_5 hown hK hM.1 rfl 0 (by decide) flX5_goBy_7 rfl (v := .ref (o + 1)) rfl dX5_goBy_176 ?_
              refine lv_iload_n hx hb dX5_goBy_179 rfl (lv_at hl 4 rfl) ?_
              refine lv_iconst (v := (4 : Int32)) hx hb dX5_goBy_180 (by decide) ?_
              refine z_cS (As := [.int x2, .int (4 : Int32)]) (rest := [.ref (o + 1), .int ((upd d_hM.2.1 (10 + 731 * i2 + (3 : Int)).toNat z16) (10 + 731 * i2 + (4 : Int)).toNat), .int z24, .ref (o + 1)]) ⟨hx, hb, hml, hown, hts⟩ (kX5_of l G x2 i2 hx2 (4 : Int32) (4 : Int) kI_4 (by first | assumption | omega)) (va_cwS 2 hts gX5_goBy_X5_of rfl rfl rfl hyX5_of ⟨Nat.le_of_ble_eq_true rfl, Nat.le_of_ble_eq_true rfl⟩) hK trivial rfl hl.1 rfl (Nat.le_of_ble_eq_true rfl) dX5_goBy_181 ⟨Nat.zero_le _, Nat.zero_le _⟩ (fun z56 e56 => ?_)
              have e56 : z56.toInt = 10 + 731 * i2 + (4 : Int) := e56
              refine z_iald (f := upd d_hM.2.1 (10 + 731 * i2 + (3 : Int)).toNat z16) hx hb hK 0 hM.2.1 rfl e56 (by omega) dX5_goBy_184 ?_
              have hcl57 : ((upd d_hM.2.1 (10 + 731 * i2 + (3 : Int)).toNat z16) (10 + 731 * i2 + (4 : Int)).toNat).toInt = ((τ.2.2 i2.toNat).1 4).toInt := (by (repeat rw [upd_ne (by omega)]); exact hqs 4 (by omega) (by omega))
              refine lv_bipush (v := (90 : Int32)) hx hb dX5_goBy_185 (by decide) ?_
              refine z_icmp_ge (tgt := 194) hx hb hcl57 kI_90 dX5_goBy_187 (by decide) (fun c_58 => ?_) (fun c_58 => ?_)
              · have hs4 := siltN_f2 (d := (τ.2.2 i2.toNat)) (h := τ.1.toInt) c_58
                refine lv_iconst (v := (0 : Int32)) hx hb dX5_goBy_194 (by decide) ?_
                refine z_iadd hx hb hcl25 kI_0 dX5_goBy_195 (by omega) (fun z59 e59 => ?_)
                have e59 : z59.toInt = siltN (τ.2.2 i2.toNat) τ.1.toInt := by rw [e59]; omega
                refine z_iastMs hx hb hK hM hS (by simp only [iv]; omega) e24 (by omega) dX5_goBy_196 (fun H locs hM hsz hq hS => ?_)
                have hM : MO G H o (d_hM.1, upd (upd d_hM.2.1 (10 + 731 * i2 + (3 : Int)).toNat z16) (10 + 731 * i2 + (4 : Int)).toNat z59, d_hM.2.2.1, d_hM.2.2.2.1, d_hM.2.2.2.2) := hM
                refine lv_aload_n hx hb dX5_goBy_197 rfl (lv_at hl 2 rfl) ?_
                refine z_get hx hb hts iwX5_goBy_5 hown hK hM.1 rfl 0 (by decide) flX5_goBy_7 rfl (v := .ref (o + 1)) rfl dX5_goBy_198 ?_
                refine lv_iload_n hx hb dX5_goBy_201 rfl (lv_at hl 4 rfl) ?_
                refine lv_bipush (v := (7 : Int32)) hx hb dX5_goBy_202 (by decide) ?_
                refine z_cS (As := [.int x2, .int (7 : Int32)]) (rest := [.ref (o + 1)]) ⟨hx, hb, hml, hown, hts⟩ (kX5_of l G x2 i2 hx2 (7 : Int32) (7 : Int) kI_7 (by first | assumption | omega)) (va_cwS 2 hts gX5_goBy_X5_of rfl rfl rfl hyX5_of ⟨Nat.le_of_ble_eq_true rfl, Nat.le_of_ble_eq_true rfl⟩) hK trivial rfl hl.1 rfl (Nat.le_of_ble_eq_true rfl) dX5_goBy_204 ⟨Nat.zero_le _, Nat.zero_le _⟩ (fun z60 e60 => ?_)
                have e60 : z60.toInt = 10 + 731 * i2 + (7 : Int) := e60
                refine lv_dup2_11 hx hb dX5_goBy_207 rfl rfl ?_
                refine z_iald (f := upd (upd d_hM.2.1 (10 + 731 * i2 + (3 : Int)).toNat z16) (10 + 731 * i2 + (4 : Int)).toNat z59) hx hb hK 0 hM.2.1 rfl e60 (by omega) dX5_goBy_208 ?_
                have hcl61 : ((upd (upd d_hM.2.1 (10 + 731 * i2 + (3 : Int)).toNat z16) (10 + 731 * i2 + (4 : Int)).toNat z59) (10 + 731 * i2 + (7 : Int)).toNat).toInt = ((τ.2.2 i2.toNat).1 7).toInt := (by (repeat rw [upd_ne (by omega)]); exact hqs 7 (by omega) (by omega))
                refine lv_iload hx hb dX5_goBy_209 (lv_at hl 0 rfl) ?_
                refine z_if_le (tgt := 227) hx hb hcl23 dX5_goBy_211 (by decide) (fun c_62 => ?_) (fun c_62 => ?_)
                · have hs7 := sunkN_f (d := (τ.2.2 i2.toNat)) (h := τ.1.toInt) (fun q => by omega)
                  refine lv_iconst (v := (0 : Int32)) hx hb dX5_goBy_227 (by decide) ?_
                  refine z_iadd hx hb hcl61 kI_0 dX5_goBy_228 (by omega) (fun z63 e63 => ?_)
                  have e63 : z63.toInt = sunkN (τ.2.2 i2.toNat) τ.1.toInt := by rw [e63]; omega
                  refine z_iastMs hx hb hK hM hS (by simp only [iv]; omega) e60 (by omega) dX5_goBy_229 (fun H locs hM hsz hq hS => ?_)
                  have hM : MO G H o (d_hM.1, upd (upd (upd d_hM.2.1 (10 + 731 * i2 + (3 : Int)).toNat z16) (10 + 731 * i2 + (4 : Int)).toNat z59) (10 + 731 * i2 + (7 : Int)).toNat z63, d_hM.2.2.1, d_hM.2.2.2.1, d_hM.2.2.2.2) := hM
                  refine z_iinc (k := 4) hx hb dX5_goBy_230 hl rfl hx2 (show (Int32.ofInt 1).toInt = (1 : Int) from rfl) (by omega) (by decide) (fun z64 e64 ls hl => ?_)
                  have hl : lv_has ls 5 [(2, .int z64), (4, .int ((upd d_hM.2.1 (10 + 731 * i2 + (3 : Int)).toNat z16) (10 + 731 * i2 + (6 : Int)).toNat)), (3, .int ((upd d_hM.2.1 (10 + 731 * i2 + (3 : Int)).toNat z16) (10 + 731 * i2 + (5 : Int)).toNat)), (0, .ref o), (1, .int (μ.2.1 (0 : Int).toNat))] := hl
                  refine lv_goto (tgt := 9) hx hb dX5_goBy_233 (by decide) ?_
                  exact ih9 z64 (i2 + (1 : Int)) e64 (d_hM.1, upd (upd (upd d_hM.2.1 (10 + 731 * i2 + (3 : Int)).toNat z16) (10 + 731 * i2 + (4 : Int)).toNat z59) (10 + 731 * i2 + (7 : Int)).toNat z63, d_hM.2.2.1, d_hM.2.2.2.1, d_hM.2.2.2.2) (by omega) (by omega) ⟨hi9_1.1.off hok ht9 hn9 (by assumption) (by assumption) (by assumption) (by assumption), hi9_1.2⟩ _ _ hM hS ls (lv_sub hl [3, 4, 0] rfl)
                · refine lv_iload_n hx hb dX5_goBy_214 rfl (lv_at hl 3 rfl) ?_
                  refine lv_iconst (v := (1 : Int32)) hx hb dX5_goBy_215 (by decide) ?_
                  refine z_iadd hx hb hcl1 kI_1 dX5_goBy_216 (by omega) (fun z65 e65 => ?_)
                  refine lv_iload hx hb dX5_goBy_217 (lv_at hl 0 rfl) ?_
                  refine z_iremp hx hb e65 hcl23 dX5_goBy_219 (by omega) (fun z66 e66 => ?_)
                  refine z_if_ne (tgt := 227) hx hb e66 dX5_goBy_220 (by decide) (fun c_67 => ?_) (fun c_67 => ?_)
                  · have hs7 := sunkN_f (d := (τ.2.2 i2.toNat)) (h := τ.1.toInt) (fun q => c_67 q.2)
                    refine lv_iconst (v := (0 : Int32)) hx hb dX5_goBy_227 (by decide) ?_
                    refine z_iadd hx hb hcl61 kI_0 dX5_goBy_228 (by omega) (fun z68 e68 => ?_)
                    have e68 : z68.toInt = sunkN (τ.2.2 i2.toNat) τ.1.toInt := by rw [e68]; omega
                    refine z_iastMs hx hb hK hM hS (by simp only [iv]; omega) e60 (by omega) dX5_goBy_229 (fun H locs hM hsz hq hS => ?_)
                    have hM : MO G H o (d_hM.1, upd (upd (upd d_hM.2.1 (10 + 731 * i2 + (3 : Int)).toNat z16) (10 + 731 * i2 + (4 : Int)).toNat z59) (10 + 731 * i2 + (7 : Int)).toNat z68, d_hM.2.2.1, d_hM.2.2.2.1, d_hM.2.2.2.2) := hM
                    refine z_iinc (k := 4) hx hb dX5_goBy_230 hl rfl hx2 (show (Int32.ofInt 1).toInt = (1 : Int) from rfl) (by omega) (by decide) (fun z69 e69 ls hl => ?_)
                    have hl : lv_has ls 5 [(2, .int z69), (4, .int ((upd d_hM.2.1 (10 + 731 * i2 + (3 : Int)).toNat z16) (10 + 731 * i2 + (6 : Int)).toNat)), (3, .int ((upd d_hM.2.1 (10 + 731 * i2 + (3 : Int)).toNat z16) (10 + 731 * i2 + (5 : Int)).toNat)), (0, .ref o), (1, .int (μ.2.1 (0 : Int).toNat))] := hl
                    refine lv_goto (tgt := 9) hx hb dX5_goBy_233 (by decide) ?_
                    exact ih9 z69 (i2 + (1 : Int)) e69 (d_hM.1, upd (upd (upd d_hM.2.1 (10 + 731 * i2 + (3 : Int)).toNat z16) (10 + 731 * i2 + (4 : Int)).toNat z59) (10 + 731 * i2 + (7 : Int)).toNat z68, d_hM.2.2.1, d_hM.2.2.2.1, d_hM.2.2.2.2) (by omega) (by omega) ⟨hi9_1.1.off hok ht9 hn9 (by assumption) (by assumption) (by assumption) (by assumption), hi9_1.2⟩ _ _ hM hS ls (lv_sub hl [3, 4, 0] rfl)
                  · have hs7 := sunkN_t (d := (τ.2.2 i2.toNat)) (h := τ.1.toInt) ⟨by omega, c_67⟩
                    refine lv_iconst (v := (1 : Int32)) hx hb dX5_goBy_223 (by decide) ?_
                    refine lv_goto (tgt := 228) hx hb dX5_goBy_224 (by decide) ?_
                    refine z_iadd hx hb hcl61 kI_1 dX5_goBy_228 (by omega) (fun z70 e70 => ?_)
                    have e70 : z70.toInt = sunkN (τ.2.2 i2.toNat) τ.1.toInt := by rw [e70]; omega
                    refine z_iastMs hx hb hK hM hS (by simp only [iv]; omega) e60 (by omega) dX5_goBy_229 (fun H locs hM hsz hq hS => ?_)
                    have hM : MO G H o (d_hM.1, upd (upd (upd d_hM.2.1 (10 + 731 * i2 + (3 : Int)).toNat z16) (10 + 731 * i2 + (4 : Int)).toNat z59) (10 + 731 * i2 + (7 : Int)).toNat z70, d_hM.2.2.1, d_hM.2.2.2.1, d_hM.2.2.2.2) := hM
                    refine z_iinc (k := 4) hx hb dX5_goBy_230 hl rfl hx2 (show (Int32.ofInt 1).toInt = (1 : Int) from rfl) (by omega) (by decide) (fun z71 e71 ls hl => ?_)
                    have hl : lv_has ls 5 [(2, .int z71), (4, .int ((upd d_hM.2.1 (10 + 731 * i2 + (3 : Int)).toNat z16) (10 + 731 * i2 + (6 : Int)).toNat)), (3, .int ((upd d_hM.2.1 (10 + 731 * i2 + (3 : Int)).toNat z16) (10 + 731 * i2 + (5 : Int)).toNat)), (0, .ref o), (1, .int (μ.2.1 (0 : Int).toNat))] := hl
                    refine lv_goto (tgt := 9) hx hb dX5_goBy_233 (by decide) ?_
                    exact ih9 z71 (i2 + (1 : Int)) e71 (d_hM.1, upd (upd (upd d_hM.2.1 (10 + 731 * i2 + (3 : Int)).toNat z16) (10 + 731 * i2 + (4 : Int)).toNat z59) (10 + 731 * i2 + (7 : Int)).toNat z70, d_hM.2.2.1, d_hM.2.2.2.1, d_hM.2.2.2.2) (by omega) (by omega) ⟨hi9_1.1.off hok ht9 hn9 (by assumption) (by assumption) (by assumption) (by assumption), hi9_1.2⟩ _ _ hM hS ls (lv_sub hl [3, 4, 0] rfl)
              · have hs4 := siltN_t (d := (τ.2.2 i2.toNat)) (h := τ.1.toInt) ⟨by omega, hA4⟩ c_58
                refine lv_iconst (v := (1 : Int32)) hx hb dX5_goBy_190 (by decide) ?_
                refine lv_goto (tgt := 195) hx hb dX5_goBy_191 (by decide) ?_
                refine z_iadd hx hb hcl25 kI_1 dX5_goBy_195 (by omega) (fun z72 e72 => ?_)
                have e72 : z72.toInt = siltN (τ.2.2 i2.toNat) τ.1.toInt := by rw [e72]; omega
                refine z_iastMs hx hb hK hM hS (by simp only [iv]; omega) e24 (by omega) dX5_goBy_196 (fun H locs hM hsz hq hS => ?_)
                have hM : MO G H o (d_hM.1, upd (upd d_hM.2.1 (10 + 731 * i2 + (3 : Int)).toNat z16) (10 + 731 * i2 + (4 : Int)).toNat z72, d_hM.2.2.1, d_hM.2.2.2.1, d_hM.2.2.2.2) := hM
                refine lv_aload_n hx hb dX5_goBy_197 rfl (lv_at hl 2 rfl) ?_
                refine z_get hx hb hts iwX5_goBy_5 hown hK hM.1 rfl 0 (by decide) flX5_goBy_7 rfl (v := .ref (o + 1)) rfl dX5_goBy_198 ?_
                refine lv_iload_n hx hb dX5_goBy_201 rfl (lv_at hl 4 rfl) ?_
                refine lv_bipush (v := (7 : Int32)) hx hb dX5_goBy_202 (by decide) ?_
                refine z_cS (As := [.int x2, .int (7 : Int32)]) (rest := [.ref (o + 1)]) ⟨hx, hb, hml, hown, hts⟩ (kX5_of l G x2 i2 hx2 (7 : Int32) (7 : Int) kI_7 (by first | assumption | omega)) (va_cwS 2 hts gX5_goBy_X5_of rfl rfl rfl hyX5_of ⟨Nat.le_of_ble_eq_true rfl, Nat.le_of_ble_eq_true rfl⟩) hK trivial rfl hl.1 rfl (Nat.le_of_ble_eq_true rfl) dX5_goBy_204 ⟨Nat.zero_le _, Nat.zero_le _⟩ (fun z73 e73 => ?_)
                have e73 : z73.toInt = 10 + 731 * i2 + (7 : Int) := e73
                refine lv_dup2_11 hx hb dX5_goBy_207 rfl rfl ?_
                refine z_iald (f := upd (upd d_hM.2.1 (10 + 731 * i2 + (3 : Int)).toNat z16) (10 + 731 * i2 + (4 : Int)).toNat z72) hx hb hK 0 hM.2.1 rfl e73 (by omega) dX5_goBy_208 ?_
                have hcl74 : ((upd (upd d_hM.2.1 (10 + 731 * i2 + (3 : Int)).toNat z16) (10 + 731 * i2 + (4 : Int)).toNat z72) (10 + 731 * i2 + (7 : Int)).toNat).toInt = ((τ.2.2 i2.toNat).1 7).toInt := (by (repeat rw [upd_ne (by omega)]); exact hqs 7 (by omega) (by omega))
                refine lv_iload hx hb dX5_goBy_209 (lv_at hl 0 rfl) ?_
                refine z_if_le (tgt := 227) hx hb hcl23 dX5_goBy_211 (by decide) (fun c_75 => ?_) (fun c_75 => ?_)
                · have hs7 := sunkN_f (d := (τ.2.2 i2.toNat)) (h := τ.1.toInt) (fun q => by omega)
                  refine lv_iconst (v := (0 : Int32)) hx hb dX5_goBy_227 (by decide) ?_
                  refine z_iadd hx hb hcl74 kI_0 dX5_goBy_228 (by omega) (fun z76 e76 => ?_)
                  have e76 : z76.toInt = sunkN (τ.2.2 i2.toNat) τ.1.toInt := by rw [e76]; omega
                  refine z_iastMs hx hb hK hM hS (by simp only [iv]; omega) e73 (by omega) dX5_goBy_229 (fun H locs hM hsz hq hS => ?_)
                  have hM : MO G H o (d_hM.1, upd (upd (upd d_hM.2.1 (10 + 731 * i2 + (3 : Int)).toNat z16) (10 + 731 * i2 + (4 : Int)).toNat z72) (10 + 731 * i2 + (7 : Int)).toNat z76, d_hM.2.2.1, d_hM.2.2.2.1, d_hM.2.2.2.2) := hM
                  refine z_iinc (k := 4) hx hb dX5_goBy_230 hl rfl hx2 (show (Int32.ofInt 1).toInt = (1 : Int) from rfl) (by omega) (by decide) (fun z77 e77 ls hl => ?_)
                  have hl : lv_has ls 5 [(2, .int z77), (4, .int ((upd d_hM.2.1 (10 + 731 * i2 + (3 : Int)).toNat z16) (10 + 731 * i2 + (6 : Int)).toNat)), (3, .int ((upd d_hM.2.1 (10 + 731 * i2 + (3 : Int)).toNat z16) (10 + 731 * i2 + (5 : Int)).toNat)), (0, .ref o), (1, .int (μ.2.1 (0 : Int).toNat))] := hl
                  refine lv_goto (tgt := 9) hx hb dX5_goBy_233 (by decide) ?_
                  exact ih9 z77 (i2 + (1 : Int)) e77 (d_hM.1, upd (upd (upd d_hM.2.1 (10 + 731 * i2 + (3 : Int)).toNat z16) (10 + 731 * i2 + (4 : Int)).toNat z72) (10 + 731 * i2 + (7 : Int)).toNat z76, d_hM.2.2.1, d_hM.2.2.2.1, d_hM.2.2.2.2) (by omega) (by omega) ⟨hi9_1.1.off hok ht9 hn9 (by assumption) (by assumption) (by assumption) (by assumption), hi9_1.2⟩ _ _ hM hS ls (lv_sub hl [3, 4, 0] rfl)
                · refine lv_iload_n hx hb dX5_goBy_214 rfl (lv_at hl 3 rfl) ?_
                  refine lv_iconst (v := (1 : Int32)) hx hb dX5_goBy_215 (by decide) ?_
                  refine z_iadd hx hb hcl1 kI_1 dX5_goBy_216 (by omega) (fun z78 e78 => ?_)
                  refine lv_iload hx hb dX5_goBy_217 (lv_at hl 0 rfl) ?_
                  refine z_iremp hx hb e78 hcl23 dX5_goBy_219 (by omega) (fun z79 e79 => ?_)
                  refine z_if_ne (tgt := 227) hx hb e79 dX5_goBy_220 (by decide) (fun c_80 => ?_) (fun c_80 => ?_)
                  · have hs7 := sunkN_f (d := (τ.2.2 i2.toNat)) (h := τ.1.toInt) (fun q => c_80 q.2)
                    refine lv_iconst (v := (0 : Int32)) hx hb dX5_goBy_227 (by decide) ?_
                    refine z_iadd hx hb hcl74 kI_0 dX5_goBy_228 (by omega) (fun z81 e81 => ?_)
                    have e81 : z81.toInt = sunkN (τ.2.2 i2.toNat) τ.1.toInt := by rw [e81]; omega
                    refine z_iastMs hx hb hK hM hS (by simp only [iv]; omega) e73 (by omega) dX5_goBy_229 (fun H locs hM hsz hq hS => ?_)
                    have hM : MO G H o (d_hM.1, upd (upd (upd d_hM.2.1 (10 + 731 * i2 + (3 : Int)).toNat z16) (10 + 731 * i2 + (4 : Int)).toNat z72) (10 + 731 * i2 + (7 : Int)).toNat z81, d_hM.2.2.1, d_hM.2.2.2.1, d_hM.2.2.2.2) := hM
                    refine z_iinc (k := 4) hx hb dX5_goBy_230 hl rfl hx2 (show (Int32.ofInt 1).toInt = (1 : Int) from rfl) (by omega) (by decide) (fun z82 e82 ls hl => ?_)
                    have hl : lv_has ls 5 [(2, .int z82), (4, .int ((upd d_hM.2.1 (10 + 731 * i2 + (3 : Int)).toNat z16) (10 + 731 * i2 + (6 : Int)).toNat)), (3, .int ((upd d_hM.2.1 (10 + 731 * i2 + (3 : Int)).toNat z16) (10 + 731 * i2 + (5 : Int)).toNat)), (0, .ref o), (1, .int (μ.2.1 (0 : Int).toNat))] := hl
                    refine lv_goto (tgt := 9) hx hb dX5_goBy_233 (by decide) ?_
                    exact ih9 z82 (i2 + (1 : Int)) e82 (d_hM.1, upd (upd (upd d_hM.2.1 (10 + 731 * i2 + (3 : Int)).toNat z16) (10 + 731 * i2 + (4 : Int)).toNat z72) (10 + 731 * i2 + (7 : Int)).toNat z81, d_hM.2.2.1, d_hM.2.2.2.1, d_hM.2.2.2.2) (by omega) (by omega) ⟨hi9_1.1.off hok ht9 hn9 (by assumption) (by assumption) (by assumption) (by assumption), hi9_1.2⟩ _ _ hM hS ls (lv_sub hl [3, 4, 0] rfl)
                  · have hs7 := sunkN_t (d := (τ.2.2 i2.toNat)) (h := τ.1.toInt) ⟨by omega, c_80⟩
                    refine lv_iconst (v := (1 : Int32)) hx hb dX5_goBy_223 (by decide) ?_
                    refine lv_goto (tgt := 228) hx hb dX5_goBy_224 (by decide) ?_
                    refine z_iadd hx hb hcl74 kI_1 dX5_goBy_228 (by omega) (fun z83 e83 => ?_)
                    have e83 : z83.toInt = sunkN (τ.2.2 i2.toNat) τ.1.toInt := by rw [e83]; omega
                    refine z_iastMs hx hb hK hM hS (by simp only [iv]; omega) e73 (by omega) dX5_goBy_229 (fun H locs hM hsz hq hS => ?_)
                    have hM : MO G H o (d_hM.1, upd (upd (upd d_hM.2.1 (10 + 731 * i2 + (3 : Int)).toNat z16) (10 + 731 * i2 + (4 : Int)).toNat z72) (10 + 731 * i2 + (7 : Int)).toNat z83, d_hM.2.2.1, d_hM.2.2.2.1, d_hM.2.2.2.2) := hM
                    refine z_iinc (k := 4) hx hb dX5_goBy_230 hl rfl hx2 (show (Int32.ofInt 1).toInt = (1 : Int) from rfl) (by omega) (by decide) (fun z84 e84 ls hl => ?_)
                    have hl : lv_has ls 5 [(2, .int z84), (4, .int ((upd d_hM.2.1 (10 + 731 * i2 + (3 : Int)).toNat z16) (10 + 731 * i2 + (6 : Int)).toNat)), (3, .int ((upd d_hM.2.1 (10 + 731 * i2 + (3 : Int)).toNat z16) (10 + 731 * i2 + (5 : Int)).toNat)), (0, .ref o), (1, .int (μ.2.1 (0 : Int).toNat))] := hl
                    refine lv_goto (tgt := 9) hx hb dX5_goBy_233 (by decide) ?_
                    exact ih9 z84 (i2 + (1 : Int)) e84 (d_hM.1, upd (upd (upd d_hM.2.1 (10 + 731 * i2 + (3 : Int)).toNat z16) (10 + 731 * i2 + (4 : Int)).toNat z72) (10 + 731 * i2 + (7 : Int)).toNat z83, d_hM.2.2.1, d_hM.2.2.2.1, d_hM.2.2.2.2) (by omega) (by omega) ⟨hi9_1.1.off hok ht9 hn9 (by assumption) (by assumption) (by assumption) (by assumption), hi9_1.2⟩ _ _ hM hS ls (lv_sub hl [3, 4, 0] rfl)
        · refine lv_aload_n hx hb dX5_goBy_78 rfl (lv_at hl 0 rfl) ?_
          refine z_get hx hb hts iwX5_goBy_5 hown hK hM.1 rfl 0 (by decide) flX5_goBy_7 rfl (v := .ref (o + 1)) rfl dX5_goBy_79 ?_
          refine lv_iload_n hx hb dX5_goBy_82 rfl (lv_at hl 2 rfl) ?_
          refine lv_sipush (v := (129 : Int32)) hx hb dX5_goBy_83 (by decide) ?_
          refine lv_iload_n hx hb dX5_goBy_86 rfl (lv_at hl 1 rfl) ?_
          refine z_iadd hx hb kI_129 hcl1 dX5_goBy_87 (by omega) (fun z85 e85 => ?_)
          refine z_cS (As := [.int x2, .int z85]) (rest := [.ref (o + 1)]) ⟨hx, hb, hml, hown, hts⟩ (kX5_of l G x2 i2 hx2 z85 ((129 : Int) + τ.1.toInt) e85 (by first | assumption | omega)) (va_cwS 2 hts gX5_goBy_X5_of rfl rfl rfl hyX5_of ⟨Nat.le_of_ble_eq_true rfl, Nat.le_of_ble_eq_true rfl⟩) hK trivial rfl hl.1 rfl (Nat.le_of_ble_eq_true rfl) dX5_goBy_88 ⟨Nat.zero_le _, Nat.zero_le _⟩ (fun z86 e86 => ?_)
          have e86 : z86.toInt = 10 + 731 * i2 + ((129 : Int) + τ.1.toInt) := e86
          refine lv_iconst (v := (1 : Int32)) hx hb dX5_goBy_91 (by decide) ?_
          refine z_iastMs hx hb hK hM hS (by simp only [iv]; omega) e86 (by omega) dX5_goBy_92 (fun H locs hM hsz hq hS => ?_)
          have hM : MO G H o (d_hM.1, upd (upd d_hM.2.1 (10 + 731 * i2 + (3 : Int)).toNat z16) (10 + 731 * i2 + ((129 : Int) + τ.1.toInt)).toNat (1 : Int32), d_hM.2.2.1, d_hM.2.2.2.1, d_hM.2.2.2.2) := hM
          refine lv_aload_n hx hb dX5_goBy_93 rfl (lv_at hl 0 rfl) ?_
          refine z_get hx hb hts iwX5_goBy_5 hown hK hM.1 rfl 0 (by decide) flX5_goBy_7 rfl (v := .ref (o + 1)) rfl dX5_goBy_94 ?_
          refine lv_iload_n hx hb dX5_goBy_97 rfl (lv_at hl 2 rfl) ?_
          refine lv_bipush (v := (9 : Int32)) hx hb dX5_goBy_98 (by decide) ?_
          refine lv_iload_n hx hb dX5_goBy_100 rfl (lv_at hl 1 rfl) ?_
          refine z_iadd hx hb kI_9 hcl1 dX5_goBy_101 (by omega) (fun z87 e87 => ?_)
          refine z_cS (As := [.int x2, .int z87]) (rest := [.ref (o + 1)]) ⟨hx, hb, hml, hown, hts⟩ (kX5_of l G x2 i2 hx2 z87 ((9 : Int) + τ.1.toInt) e87 (by first | assumption | omega)) (va_cwS 2 hts gX5_goBy_X5_of rfl rfl rfl hyX5_of ⟨Nat.le_of_ble_eq_true rfl, Nat.le_of_ble_eq_true rfl⟩) hK trivial rfl hl.1 rfl (Nat.le_of_ble_eq_true rfl) dX5_goBy_102 ⟨Nat.zero_le _, Nat.zero_le _⟩ (fun z88 e88 => ?_)
          have e88 : z88.toInt = 10 + 731 * i2 + ((9 : Int) + τ.1.toInt) := e88
          refine lv_aload_n hx hb dX5_goBy_105 rfl (lv_at hl 0 rfl) ?_
          refine z_get hx hb hts iwX5_goBy_5 hown hK hM.1 rfl 0 (by decide) flX5_goBy_7 rfl (v := .ref (o + 1)) rfl dX5_goBy_106 ?_
          refine lv_iload_n hx hb dX5_goBy_109 rfl (lv_at hl 2 rfl) ?_
          refine lv_iconst (v := (3 : Int32)) hx hb dX5_goBy_110 (by decide) ?_
          refine z_cS (As := [.int x2, .int (3 : Int32)]) (rest := [.ref (o + 1), .int z88, .ref (o + 1)]) ⟨hx, hb, hml, hown, hts⟩ (kX5_of l G x2 i2 hx2 (3 : Int32) (3 : Int) kI_3 (by first | assumption | omega)) (va_cwS 2 hts gX5_goBy_X5_of rfl rfl rfl hyX5_of ⟨Nat.le_of_ble_eq_true rfl, Nat.le_of_ble_eq_true rfl⟩) hK trivial rfl hl.1 rfl (Nat.le_of_ble_eq_true rfl) dX5_goBy_111 ⟨Nat.zero_le _, Nat.zero_le _⟩ (fun z89 e89 => ?_)
          have e89 : z89.toInt = 10 + 731 * i2 + (3 : Int) := e89
          refine z_iald (f := upd (upd d_hM.2.1 (10 + 731 * i2 + (3 : Int)).toNat z16) (10 + 731 * i2 + ((129 : Int) + τ.1.toInt)).toNat (1 : Int32)) hx hb hK 0 hM.2.1 rfl e89 (by omega) dX5_goBy_114 ?_
          have hcl90 : ((upd (upd d_hM.2.1 (10 + 731 * i2 + (3 : Int)).toNat z16) (10 + 731 * i2 + ((129 : Int) + τ.1.toInt)).toNat (1 : Int32)) (10 + 731 * i2 + (3 : Int)).toNat).toInt = flN (τ.2.2 i2.toNat) (watZ τ.2.1 (τ.2.2 i2.toNat) τ.1.toInt) := (by rw [upd_ne (by omega), upd_at]; assumption)
          refine lv_aload_n hx hb dX5_goBy_115 rfl (lv_at hl 0 rfl) ?_
          refine z_get hx hb hts iwX5_goBy_5 hown hK hM.1 rfl 0 (by decide) flX5_goBy_7 rfl (v := .ref (o + 1)) rfl dX5_goBy_116 ?_
          refine lv_iload_n hx hb dX5_goBy_119 rfl (lv_at hl 2 rfl) ?_
          refine lv_bipush (v := (7 : Int32)) hx hb dX5_goBy_120 (by decide) ?_
          refine z_cS (As := [.int x2, .int (7 : Int32)]) (rest := [.ref (o + 1), .int ((upd (upd d_hM.2.1 (10 + 731 * i2 + (3 : Int)).toNat z16) (10 + 731 * i2 + ((129 : Int) + τ.1.toInt)).toNat (1 : Int32)) (10 + 731 * i2 + (3 : Int)).toNat), .int z88, .ref (o + 1)]) ⟨hx, hb, hml, hown, hts⟩ (kX5_of l G x2 i2 hx2 (7 : Int32) (7 : Int) kI_7 (by first | assumption | omega)) (va_cwS 2 hts gX5_goBy_X5_of rfl rfl rfl hyX5_of ⟨Nat.le_of_ble_eq_true rfl, Nat.le_of_ble_eq_true rfl⟩) hK trivial rfl hl.1 rfl (Nat.le_of_ble_eq_true rfl) dX5_goBy_122 ⟨Nat.zero_le _, Nat.zero_le _⟩ (fun z91 e91 => ?_)
          have e91 : z91.toInt = 10 + 731 * i2 + (7 : Int) := e91
          refine z_iald (f := upd (upd d_hM.2.1 (10 + 731 * i2 + (3 : Int)).toNat z16) (10 + 731 * i2 + ((129 : Int) + τ.1.toInt)).toNat (1 : Int32)) hx hb hK 0 hM.2.1 rfl e91 (by omega) dX5_goBy_125 ?_
          have hcl92 : ((upd (upd d_hM.2.1 (10 + 731 * i2 + (3 : Int)).toNat z16) (10 + 731 * i2 + ((129 : Int) + τ.1.toInt)).toNat (1 : Int32)) (10 + 731 * i2 + (7 : Int)).toNat).toInt = ((τ.2.2 i2.toNat).1 7).toInt := (by (repeat rw [upd_ne (by omega)]); exact hqs 7 (by omega) (by omega))
          refine z_iadd hx hb hcl90 hcl92 dX5_goBy_126 (by omega) (fun z93 e93 => ?_)
          refine z_iastMs hx hb hK hM hS (by simp only [iv]; omega) e88 (by omega) dX5_goBy_127 (fun H locs hM hsz hq hS => ?_)
          have hM : MO G H o (d_hM.1, upd (upd (upd d_hM.2.1 (10 + 731 * i2 + (3 : Int)).toNat z16) (10 + 731 * i2 + ((129 : Int) + τ.1.toInt)).toNat (1 : Int32)) (10 + 731 * i2 + ((9 : Int) + τ.1.toInt)).toNat z93, d_hM.2.2.1, d_hM.2.2.2.1, d_hM.2.2.2.2) := hM
          refine lv_aload_n hx hb dX5_goBy_128 rfl (lv_at hl 0 rfl) ?_
          refine z_get hx hb hts iwX5_goBy_5 hown hK hM.1 rfl 0 (by decide) flX5_goBy_7 rfl (v := .ref (o + 1)) rfl dX5_goBy_129 ?_
          refine lv_iload_n hx hb dX5_goBy_132 rfl (lv_at hl 2 rfl) ?_
          refine lv_iconst (v := (5 : Int32)) hx hb dX5_goBy_133 (by decide) ?_
          refine z_cS (As := [.int x2, .int (5 : Int32)]) (rest := [.ref (o + 1)]) ⟨hx, hb, hml, hown, hts⟩ (kX5_of l G x2 i2 hx2 (5 : Int32) (5 : Int) kI_5 (by first | assumption | omega)) (va_cwS 2 hts gX5_goBy_X5_of rfl rfl rfl hyX5_of ⟨Nat.le_of_ble_eq_true rfl, Nat.le_of_ble_eq_true rfl⟩) hK trivial rfl hl.1 rfl (Nat.le_of_ble_eq_true rfl) dX5_goBy_134 ⟨Nat.zero_le _, Nat.zero_le _⟩ (fun z94 e94 => ?_)
          have e94 : z94.toInt = 10 + 731 * i2 + (5 : Int) := e94
          refine z_iald (f := upd (upd (upd d_hM.2.1 (10 + 731 * i2 + (3 : Int)).toNat z16) (10 + 731 * i2 + ((129 : Int) + τ.1.toInt)).toNat (1 : Int32)) (10 + 731 * i2 + ((9 : Int) + τ.1.toInt)).toNat z93) hx hb hK 0 hM.2.1 rfl e94 (by omega) dX5_goBy_137 ?_
          have hcl95 : ((upd (upd (upd d_hM.2.1 (10 + 731 * i2 + (3 : Int)).toNat z16) (10 + 731 * i2 + ((129 : Int) + τ.1.toInt)).toNat (1 : Int32)) (10 + 731 * i2 + ((9 : Int) + τ.1.toInt)).toNat z93) (10 + 731 * i2 + (5 : Int)).toNat).toInt = ((τ.2.2 i2.toNat).1 5).toInt := (by (repeat rw [upd_ne (by omega)]); exact hqs 5 (by omega) (by omega))
          refine lv_istore_n hx hb dX5_goBy_138 rfl hl (by decide) rfl (fun ls hl => ?_)
          have hl : lv_has ls 5 [(3, .int ((upd (upd (upd d_hM.2.1 (10 + 731 * i2 + (3 : Int)).toNat z16) (10 + 731 * i2 + ((129 : Int) + τ.1.toInt)).toNat (1 : Int32)) (10 + 731 * i2 + ((9 : Int) + τ.1.toInt)).toNat z93) (10 + 731 * i2 + (5 : Int)).toNat)), (0, .ref o), (1, .int (μ.2.1 (0 : Int).toNat)), (2, .int x2)] := hl
          refine lv_aload_n hx hb dX5_goBy_139 rfl (lv_at hl 1 rfl) ?_
          refine z_get hx hb hts iwX5_goBy_5 hown hK hM.1 rfl 0 (by decide) flX5_goBy_7 rfl (v := .ref (o + 1)) rfl dX5_goBy_140 ?_
          refine lv_iload_n hx hb dX5_goBy_143 rfl (lv_at hl 3 rfl) ?_
          refine lv_bipush (v := (6 : Int32)) hx hb dX5_goBy_144 (by decide) ?_
          refine z_cS (As := [.int x2, .int (6 : Int32)]) (rest := [.ref (o + 1)]) ⟨hx, hb, hml, hown, hts⟩ (kX5_of l G x2 i2 hx2 (6 : Int32) (6 : Int) kI_6 (by first | assumption | omega)) (va_cwS 2 hts gX5_goBy_X5_of rfl rfl rfl hyX5_of ⟨Nat.le_of_ble_eq_true rfl, Nat.le_of_ble_eq_true rfl⟩) hK trivial rfl hl.1 rfl (Nat.le_of_ble_eq_true rfl) dX5_goBy_146 ⟨Nat.zero_le _, Nat.zero_le _⟩ (fun z96 e96 => ?_)
          have e96 : z96.toInt = 10 + 731 * i2 + (6 : Int) := e96
          refine z_iald (f := upd (upd (upd d_hM.2.1 (10 + 731 * i2 + (3 : Int)).toNat z16) (10 + 731 * i2 + ((129 : Int) + τ.1.toInt)).toNat (1 : Int32)) (10 + 731 * i2 + ((9 : Int) + τ.1.toInt)).toNat z93) hx hb hK 0 hM.2.1 rfl e96 (by omega) dX5_goBy_149 ?_
          have hcl97 : ((upd (upd (upd d_hM.2.1 (10 + 731 * i2 + (3 : Int)).toNat z16) (10 + 731 * i2 + ((129 : Int) + τ.1.toInt)).toNat (1 : Int32)) (10 + 731 * i2 + ((9 : Int) + τ.1.toInt)).toNat z93) (10 + 731 * i2 + (6 : Int)).toNat).toInt = ((τ.2.2 i2.toNat).1 6).toInt := (by (repeat rw [upd_ne (by omega)]); exact hqs 6 (by omega) (by omega))
          refine lv_istore hx hb dX5_goBy_150 hl (by decide) rfl (fun ls hl => ?_)
          have hl : lv_has ls 5 [(4, .int ((upd (upd (upd d_hM.2.1 (10 + 731 * i2 + (3 : Int)).toNat z16) (10 + 731 * i2 + ((129 : Int) + τ.1.toInt)).toNat (1 : Int32)) (10 + 731 * i2 + ((9 : Int) + τ.1.toInt)).toNat z93) (10 + 731 * i2 + (6 : Int)).toNat)), (3, .int ((upd (upd (upd d_hM.2.1 (10 + 731 * i2 + (3 : Int)).toNat z16) (10 + 731 * i2 + ((129 : Int) + τ.1.toInt)).toNat (1 : Int32)) (10 + 731 * i2 + ((9 : Int) + τ.1.toInt)).toNat z93) (10 + 731 * i2 + (5 : Int)).toNat)), (0, .ref o), (1, .int (μ.2.1 (0 : Int).toNat)), (2, .int x2)] := hl
          refine lv_aload_n hx hb dX5_goBy_152 rfl (lv_at hl 2 rfl) ?_
          refine z_get hx hb hts iwX5_goBy_5 hown hK hM.1 rfl 0 (by decide) flX5_goBy_7 rfl (v := .ref (o + 1)) rfl dX5_goBy_153 ?_
          refine lv_iload_n hx hb dX5_goBy_156 rfl (lv_at hl 4 rfl) ?_
          refine lv_iconst (v := (4 : Int32)) hx hb dX5_goBy_157 (by decide) ?_
          refine z_cS (As := [.int x2, .int (4 : Int32)]) (rest := [.ref (o + 1)]) ⟨hx, hb, hml, hown, hts⟩ (kX5_of l G x2 i2 hx2 (4 : Int32) (4 : Int) kI_4 (by first | assumption | omega)) (va_cwS 2 hts gX5_goBy_X5_of rfl rfl rfl hyX5_of ⟨Nat.le_of_ble_eq_true rfl, Nat.le_of_ble_eq_true rfl⟩) hK trivial rfl hl.1 rfl (Nat.le_of_ble_eq_true rfl) dX5_goBy_158 ⟨Nat.zero_le _, Nat.zero_le _⟩ (fun z98 e98 => ?_)
          have e98 : z98.toInt = 10 + 731 * i2 + (4 : Int) := e98
          refine lv_dup2_11 hx hb dX5_goBy_161 rfl rfl ?_
          refine z_iald (f := upd (upd (upd d_hM.2.1 (10 + 731 * i2 + (3 : Int)).toNat z16) (10 + 731 * i2 + ((129 : Int) + τ.1.toInt)).toNat (1 : Int32)) (10 + 731 * i2 + ((9 : Int) + τ.1.toInt)).toNat z93) hx hb hK 0 hM.2.1 rfl e98 (by omega) dX5_goBy_162 ?_
          have hcl99 : ((upd (upd (upd d_hM.2.1 (10 + 731 * i2 + (3 : Int)).toNat z16) (10 + 731 * i2 + ((129 : Int) + τ.1.toInt)).toNat (1 : Int32)) (10 + 731 * i2 + ((9 : Int) + τ.1.toInt)).toNat z93) (10 + 731 * i2 + (4 : Int)).toNat).toInt = ((τ.2.2 i2.toNat).1 4).toInt := (by (repeat rw [upd_ne (by omega)]); exact hqs 4 (by omega) (by omega))
          refine lv_iload_n hx hb dX5_goBy_163 rfl (lv_at hl 1 rfl) ?_
          refine z_if_le (tgt := 194) hx hb hcl95 dX5_goBy_164 (by decide) (fun c_100 => ?_) (fun c_100 => ?_)
          · have hs4 := siltN_f1 (d := (τ.2.2 i2.toNat)) (h := τ.1.toInt) (fun q => by omega)
            refine lv_iconst (v := (0 : Int32)) hx hb dX5_goBy_194 (by decide) ?_
            refine z_iadd hx hb hcl99 kI_0 dX5_goBy_195 (by omega) (fun z101 e101 => ?_)
            have e101 : z101.toInt = siltN (τ.2.2 i2.toNat) τ.1.toInt := by rw [e101]; omega
            refine z_iastMs hx hb hK hM hS (by simp only [iv]; omega) e98 (by omega) dX5_goBy_196 (fun H locs hM hsz hq hS => ?_)
            have hM : MO G H o (d_hM.1, upd (upd (upd (upd d_hM.2.1 (10 + 731 * i2 + (3 : Int)).toNat z16) (10 + 731 * i2 + ((129 : Int) + τ.1.toInt)).toNat (1 : Int32)) (10 + 731 * i2 + ((9 : Int) + τ.1.toInt)).toNat z93) (10 + 731 * i2 + (4 : Int)).toNat z101, d_hM.2.2.1, d_hM.2.2.2.1, d_hM.2.2.2.2) := hM
            refine lv_aload_n hx hb dX5_goBy_197 rfl (lv_at hl 2 rfl) ?_
            refine z_get hx hb hts iwX5_goBy_5 hown hK hM.1 rfl 0 (by decide) flX5_goBy_7 rfl (v := .ref (o + 1)) rfl dX5_goBy_198 ?_
            refine lv_iload_n hx hb dX5_goBy_201 rfl (lv_at hl 4 rfl) ?_
            refine lv_bipush (v := (7 : Int32)) hx hb dX5_goBy_202 (by decide) ?_
            refine z_cS (As := [.int x2, .int (7 : Int32)]) (rest := [.ref (o + 1)]) ⟨hx, hb, hml, hown, hts⟩ (kX5_of l G x2 i2 hx2 (7 : Int32) (7 : Int) kI_7 (by first | assumption | omega)) (va_cwS 2 hts gX5_goBy_X5_of rfl rfl rfl hyX5_of ⟨Nat.le_of_ble_eq_true rfl, Nat.le_of_ble_eq_true rfl⟩) hK trivial rfl hl.1 rfl (Nat.le_of_ble_eq_true rfl) dX5_goBy_204 ⟨Nat.zero_le _, Nat.zero_le _⟩ (fun z102 e102 => ?_)
            have e102 : z102.toInt = 10 + 731 * i2 + (7 : Int) := e102
            refine lv_dup2_11 hx hb dX5_goBy_207 rfl rfl ?_
            refine z_iald (f := upd (upd (upd (upd d_hM.2.1 (10 + 731 * i2 + (3 : Int)).toNat z16) (10 + 731 * i2 + ((129 : Int) + τ.1.toInt)).toNat (1 : Int32)) (10 + 731 * i2 + ((9 : Int) + τ.1.toInt)).toNat z93) (10 + 731 * i2 + (4 : Int)).toNat z101) hx hb hK 0 hM.2.1 rfl e102 (by omega) dX5_goBy_208 ?_
            have hcl103 : ((upd (upd (upd (upd d_hM.2.1 (10 + 731 * i2 + (3 : Int)).toNat z16) (10 + 731 * i2 + ((129 : Int) + τ.1.toInt)).toNat (1 : Int32)) (10 + 731 * i2 + ((9 : Int) + τ.1.toInt)).toNat z93) (10 + 731 * i2 + (4 : Int)).toNat z101) (10 + 731 * i2 + (7 : Int)).toNat).toInt = ((τ.2.2 i2.toNat).1 7).toInt := (by (repeat rw [upd_ne (by omega)]); exact hqs 7 (by omega) (by omega))
            refine lv_iload hx hb dX5_goBy_209 (lv_at hl 0 rfl) ?_
            refine z_if_le (tgt := 227) hx hb hcl97 dX5_goBy_211 (by decide) (fun c_104 => ?_) (fun c_104 => ?_)
            · have hs7 := sunkN_f (d := (τ.2.2 i2.toNat)) (h := τ.1.toInt) (fun q => by omega)
              refine lv_iconst (v := (0 : Int32)) hx hb dX5_goBy_227 (by decide) ?_
              refine z_iadd hx hb hcl103 kI_0 dX5_goBy_228 (by omega) (fun z105 e105 => ?_)
              have e105 : z105.toInt = sunkN (τ.2.2 i2.toNat) τ.1.toInt := by rw [e105]; omega
              refine z_iastMs hx hb hK hM hS (by simp only [iv]; omega) e102 (by omega) dX5_goBy_229 (fun H locs hM hsz hq hS => ?_)
              have hM : MO G H o (d_hM.1, upd (upd (upd (upd (upd d_hM.2.1 (10 + 731 * i2 + (3 : Int)).toNat z16) (10 + 731 * i2 + ((129 : Int) + τ.1.toInt)).toNat (1 : Int32)) (10 + 731 * i2 + ((9 : Int) + τ.1.toInt)).toNat z93) (10 + 731 * i2 + (4 : Int)).toNat z101) (10 + 731 * i2 + (7 : Int)).toNat z105, d_hM.2.2.1, d_hM.2.2.2.1, d_hM.2.2.2.2) := hM
              refine z_iinc (k := 4) hx hb dX5_goBy_230 hl rfl hx2 (show (Int32.ofInt 1).toInt = (1 : Int) from rfl) (by omega) (by decide) (fun z106 e106 ls hl => ?_)
              have hl : lv_has ls 5 [(2, .int z106), (4, .int ((upd (upd (upd d_hM.2.1 (10 + 731 * i2 + (3 : Int)).toNat z16) (10 + 731 * i2 + ((129 : Int) + τ.1.toInt)).toNat (1 : Int32)) (10 + 731 * i2 + ((9 : Int) + τ.1.toInt)).toNat z93) (10 + 731 * i2 + (6 : Int)).toNat)), (3, .int ((upd (upd (upd d_hM.2.1 (10 + 731 * i2 + (3 : Int)).toNat z16) (10 + 731 * i2 + ((129 : Int) + τ.1.toInt)).toNat (1 : Int32)) (10 + 731 * i2 + ((9 : Int) + τ.1.toInt)).toNat z93) (10 + 731 * i2 + (5 : Int)).toNat)), (0, .ref o), (1, .int (μ.2.1 (0 : Int).toNat))] := hl
              refine lv_goto (tgt := 9) hx hb dX5_goBy_233 (by decide) ?_
              exact ih9 z106 (i2 + (1 : Int)) e106 (d_hM.1, upd (upd (upd (upd (upd d_hM.2.1 (10 + 731 * i2 + (3 : Int)).toNat z16) (10 + 731 * i2 + ((129 : Int) + τ.1.toInt)).toNat (1 : Int32)) (10 + 731 * i2 + ((9 : Int) + τ.1.toInt)).toNat z93) (10 + 731 * i2 + (4 : Int)).toNat z101) (10 + 731 * i2 + (7 : Int)).toNat z105, d_hM.2.2.1, d_hM.2.2.2.1, d_hM.2.2.2.2) (by omega) (by omega) ⟨hi9_1.1.on hok ht9 hn9 (by assumption) (by assumption) (by assumption) (by assumption) (by assumption), hi9_1.2⟩ _ _ hM hS ls (lv_sub hl [3, 4, 0] rfl)
            · refine lv_iload_n hx hb dX5_goBy_214 rfl (lv_at hl 3 rfl) ?_
              refine lv_iconst (v := (1 : Int32)) hx hb dX5_goBy_215 (by decide) ?_
              refine z_iadd hx hb hcl1 kI_1 dX5_goBy_216 (by omega) (fun z107 e107 => ?_)
              refine lv_iload hx hb dX5_goBy_217 (lv_at hl 0 rfl) ?_
              refine z_iremp hx hb e107 hcl97 dX5_goBy_219 (by omega) (fun z108 e108 => ?_)
              refine z_if_ne (tgt := 227) hx hb e108 dX5_goBy_220 (by decide) (fun c_109 => ?_) (fun c_109 => ?_)
              · have hs7 := sunkN_f (d := (τ.2.2 i2.toNat)) (h := τ.1.toInt) (fun q => c_109 q.2)
                refine lv_iconst (v := (0 : Int32)) hx hb dX5_goBy_227 (by decide) ?_
                refine z_iadd hx hb hcl103 kI_0 dX5_goBy_228 (by omega) (fun z110 e110 => ?_)
                have e110 : z110.toInt = sunkN (τ.2.2 i2.toNat) τ.1.toInt := by rw [e110]; omega
                refine z_iastMs hx hb hK hM hS (by simp only [iv]; omega) e102 (by omega) dX5_goBy_229 (fun H locs hM hsz hq hS => ?_)
                have hM : MO G H o (d_hM.1, upd (upd (upd (upd (upd d_hM.2.1 (10 + 731 * i2 + (3 : Int)).toNat z16) (10 + 731 * i2 + ((129 : Int) + τ.1.toInt)).toNat (1 : Int32)) (10 + 731 * i2 + ((9 : Int) + τ.1.toInt)).toNat z93) (10 + 731 * i2 + (4 : Int)).toNat z101) (10 + 731 * i2 + (7 : Int)).toNat z110, d_hM.2.2.1, d_hM.2.2.2.1, d_hM.2.2.2.2) := hM
                refine z_iinc (k := 4) hx hb dX5_goBy_230 hl rfl hx2 (show (Int32.ofInt 1).toInt = (1 : Int) from rfl) (by omega) (by decide) (fun z111 e111 ls hl => ?_)
                have hl : lv_has ls 5 [(2, .int z111), (4, .int ((upd (upd (upd d_hM.2.1 (10 + 731 * i2 + (3 : Int)).toNat z16) (10 + 731 * i2 + ((129 : Int) + τ.1.toInt)).toNat (1 : Int32)) (10 + 731 * i2 + ((9 : Int) + τ.1.toInt)).toNat z93) (10 + 731 * i2 + (6 : Int)).toNat)), (3, .int ((upd (upd (upd d_hM.2.1 (10 + 731 * i2 + (3 : Int)).toNat z16) (10 + 731 * i2 + ((129 : Int) + τ.1.toInt)).toNat (1 : Int32)) (10 + 731 * i2 + ((9 : Int) + τ.1.toInt)).toNat z93) (10 + 731 * i2 + (5 : Int)).toNat)), (0, .ref o), (1, .int (μ.2.1 (0 : Int).toNat))] := hl
                refine lv_goto (tgt := 9) hx hb dX5_goBy_233 (by decide) ?_
                exact ih9 z111 (i2 + (1 : Int)) e111 (d_hM.1, upd (upd (upd (upd (upd d_hM.2.1 (10 + 731 * i2 + (3 : Int)).toNat z16) (10 + 731 * i2 + ((129 : Int) + τ.1.toInt)).toNat (1 : Int32)) (10 + 731 * i2 + ((9 : Int) + τ.1.toInt)).toNat z93) (10 + 731 * i2 + (4 : Int)).toNat z101) (10 + 731 * i2 + (7 : Int)).toNat z110, d_hM.2.2.1, d_hM.2.2.2.1, d_hM.2.2.2.2) (by omega) (by omega) ⟨hi9_1.1.on hok ht9 hn9 (by assumption) (by assumption) (by assumption) (by assumption) (by assumption), hi9_1.2⟩ _ _ hM hS ls (lv_sub hl [3, 4, 0] rfl)
              · have hs7 := sunkN_t (d := (τ.2.2 i2.toNat)) (h := τ.1.toInt) ⟨by omega, c_109⟩
                refine lv_iconst (v := (1 : Int32)) hx hb dX5_goBy_223 (by decide) ?_
                refine lv_goto (tgt := 228) hx hb dX5_goBy_224 (by decide) ?_
                refine z_iadd hx hb hcl103 kI_1 dX5_goBy_228 (by omega) (fun z112 e112 => ?_)
                have e112 : z112.toInt = sunkN (τ.2.2 i2.toNat) τ.1.toInt := by rw [e112]; omega
                refine z_iastMs hx hb hK hM hS (by simp only [iv]; omega) e102 (by omega) dX5_goBy_229 (fun H locs hM hsz hq hS => ?_)
                have hM : MO G H o (d_hM.1, upd (upd (upd (upd (upd d_hM.2.1 (10 + 731 * i2 + (3 : Int)).toNat z16) (10 + 731 * i2 + ((129 : Int) + τ.1.toInt)).toNat (1 : Int32)) (10 + 731 * i2 + ((9 : Int) + τ.1.toInt)).toNat z93) (10 + 731 * i2 + (4 : Int)).toNat z101) (10 + 731 * i2 + (7 : Int)).toNat z112, d_hM.2.2.1, d_hM.2.2.2.1, d_hM.2.2.2.2) := hM
                refine z_iinc (k := 4) hx hb dX5_goBy_230 hl rfl hx2 (show (Int32.ofInt 1).toInt = (1 : Int) from rfl) (by omega) (by decide) (fun z113 e113 ls hl => ?_)
                have hl : lv_has ls 5 [(2, .int z113), (4, .int ((upd (upd (upd d_hM.2.1 (10 + 731 * i2 + (3 : Int)).toNat z16) (10 + 731 * i2 + ((129 : Int) + τ.1.toInt)).toNat (1 : Int32)) (10 + 731 * i2 + ((9 : Int) + τ.1.toInt)).toNat z93) (10 + 731 * i2 + (6 : Int)).toNat)), (3, .int ((upd (upd (upd d_hM.2.1 (10 + 731 * i2 + (3 : Int)).toNat z16) (10 + 731 * i2 + ((129 : Int) + τ.1.toInt)).toNat (1 : Int32)) (10 + 731 * i2 + ((9 : Int) + τ.1.toInt)).toNat z93) (10 + 731 * i2 + (5 : Int)).toNat)), (0, .ref o), (1, .int (μ.2.1 (0 : Int).toNat))] := hl
                refine lv_goto (tgt := 9) hx hb dX5_goBy_233 (by decide) ?_
                exact ih9 z113 (i2 + (1 : Int)) e113 (d_hM.1, upd (upd (upd (upd (upd d_hM.2.1 (10 + 731 * i2 + (3 : Int)).toNat z16) (10 + 731 * i2 + ((129 : Int) + τ.1.toInt)).toNat (1 : Int32)) (10 + 731 * i2 + ((9 : Int) + τ.1.toInt)).toNat z93) (10 + 731 * i2 + (4 : Int)).toNat z101) (10 + 731 * i2 + (7 : Int)).toNat z112, d_hM.2.2.1, d_hM.2.2.2.1, d_hM.2.2.2.2) (by omega) (by omega) ⟨hi9_1.1.on hok ht9 hn9 (by assumption) (by assumption) (by assumption) (by assumption) (by assumption), hi9_1.2⟩ _ _ hM hS ls (lv_sub hl [3, 4, 0] rfl)
          · refine lv_iload_n hx hb dX5_goBy_167 rfl (lv_at hl 3 rfl) ?_
            refine lv_iconst (v := (1 : Int32)) hx hb dX5_goBy_168 (by decide) ?_
            refine z_iadd hx hb hcl1 kI_1 dX5_goBy_169 (by omega) (fun z114 e114 => ?_)
            refine lv_iload_n hx hb dX5_goBy_170 rfl (lv_at hl 1 rfl) ?_
            refine z_iremp hx hb e114 hcl95 dX5_goBy_171 (by omega) (fun z115 e115 => ?_)
            refine z_if_ne (tgt := 194) hx hb e115 dX5_goBy_172 (by decide) (fun c_116 => ?_) (fun c_116 => ?_)
            · have hs4 := siltN_f1 (d := (τ.2.2 i2.toNat)) (h := τ.1.toInt) (fun q => c_116 q.2)
              refine lv_iconst (v := (0 : Int32)) hx hb dX5_goBy_194 (by decide) ?_
              refine z_iadd hx hb hcl99 kI_0 dX5_goBy_195 (by omega) (fun z117 e117 => ?_)
              have e117 : z117.toInt = siltN (τ.2.2 i2.toNat) τ.1.toInt := by rw [e117]; omega
              refine z_iastMs hx hb hK hM hS (by simp only [iv]; omega) e98 (by omega) dX5_goBy_196 (fun H locs hM hsz hq hS => ?_)
              have hM : MO G H o (d_hM.1, upd (upd (upd (upd d_hM.2.1 (10 + 731 * i2 + (3 : Int)).toNat z16) (10 + 731 * i2 + ((129 : Int) + τ.1.toInt)).toNat (1 : Int32)) (10 + 731 * i2 + ((9 : Int) + τ.1.toInt)).toNat z93) (10 + 731 * i2 + (4 : Int)).toNat z117, d_hM.2.2.1, d_hM.2.2.2.1, d_hM.2.2.2.2) := hM
              refine lv_aload_n hx hb dX5_goBy_197 rfl (lv_at hl 2 rfl) ?_
              refine z_get hx hb hts iwX5_goBy_5 hown hK hM.1 rfl 0 (by decide) flX5_goBy_7 rfl (v := .ref (o + 1)) rfl dX5_goBy_198 ?_
              refine lv_iload_n hx hb dX5_goBy_201 rfl (lv_at hl 4 rfl) ?_
              refine lv_bipush (v := (7 : Int32)) hx hb dX5_goBy_202 (by decide) ?_
              refine z_cS (As := [.int x2, .int (7 : Int32)]) (rest := [.ref (o + 1)]) ⟨hx, hb, hml, hown, hts⟩ (kX5_of l G x2 i2 hx2 (7 : Int32) (7 : Int) kI_7 (by first | assumption | omega)) (va_cwS 2 hts gX5_goBy_X5_of rfl rfl rfl hyX5_of ⟨Nat.le_of_ble_eq_true rfl, Nat.le_of_ble_eq_true rfl⟩) hK trivial rfl hl.1 rfl (Nat.le_of_ble_eq_true rfl) dX5_goBy_204 ⟨Nat.zero_le _, Nat.zero_le _⟩ (fun z118 e118 => ?_)
              have e118 : z118.toInt = 10 + 731 * i2 + (7 : Int) := e118
              refine lv_dup2_11 hx hb dX5_goBy_207 rfl rfl ?_
              refine z_iald (f := upd (upd (upd (upd d_hM.2.1 (10 + 731 * i2 + (3 : Int)).toNat z16) (10 + 731 * i2 + ((129 : Int) + τ.1.toInt)).toNat (1 : Int32)) (10 + 731 * i2 + ((9 : Int) + τ.1.toInt)).toNat z93) (10 + 731 * i2 + (4 : Int)).toNat z117) hx hb hK 0 hM.2.1 rfl e118 (by omega) dX5_goBy_208 ?_
              have hcl119 : ((upd (upd (upd (upd d_hM.2.1 (10 + 731 * i2 + (3 : Int)).toNat z16) (10 + 731 * i2 + ((129 : Int) + τ.1.toInt)).toNat (1 : Int32)) (10 + 731 * i2 + ((9 : Int) + τ.1.toInt)).toNat z93) (10 + 731 * i2 + (4 : Int)).toNat z117) (10 + 731 * i2 + (7 : Int)).toNat).toInt = ((τ.2.2 i2.toNat).1 7).toInt := (by (repeat rw [upd_ne (by omega)]); exact hqs 7 (by omega) (by omega))
              refine lv_iload hx hb dX5_goBy_209 (lv_at hl 0 rfl) ?_
              refine z_if_le (tgt := 227) hx hb hcl97 dX5_goBy_211 (by decide) (fun c_120 => ?_) (fun c_120 => ?_)
              · have hs7 := sunkN_f (d := (τ.2.2 i2.toNat)) (h := τ.1.toInt) (fun q => by omega)
                refine lv_iconst (v := (0 : Int32)) hx hb dX5_goBy_227 (by decide) ?_
                refine z_iadd hx hb hcl119 kI_0 dX5_goBy_228 (by omega) (fun z121 e121 => ?_)
                have e121 : z121.toInt = sunkN (τ.2.2 i2.toNat) τ.1.toInt := by rw [e121]; omega
                refine z_iastMs hx hb hK hM hS (by simp only [iv]; omega) e118 (by omega) dX5_goBy_229 (fun H locs hM hsz hq hS => ?_)
                have hM : MO G H o (d_hM.1, upd (upd (upd (upd (upd d_hM.2.1 (10 + 731 * i2 + (3 : Int)).toNat z16) (10 + 731 * i2 + ((129 : Int) + τ.1.toInt)).toNat (1 : Int32)) (10 + 731 * i2 + ((9 : Int) + τ.1.toInt)).toNat z93) (10 + 731 * i2 + (4 : Int)).toNat z117) (10 + 731 * i2 + (7 : Int)).toNat z121, d_hM.2.2.1, d_hM.2.2.2.1, d_hM.2.2.2.2) := hM
                refine z_iinc (k := 4) hx hb dX5_goBy_230 hl rfl hx2 (show (Int32.ofInt 1).toInt = (1 : Int) from rfl) (by omega) (by decide) (fun z122 e122 ls hl => ?_)
                have hl : lv_has ls 5 [(2, .int z122), (4, .int ((upd (upd (upd d_hM.2.1 (10 + 731 * i2 + (3 : Int)).toNat z16) (10 + 731 * i2 + ((129 : Int) + τ.1.toInt)).toNat (1 : Int32)) (10 + 731 * i2 + ((9 : Int) + τ.1.toInt)).toNat z93) (10 + 731 * i2 + (6 : Int)).toNat)), (3, .int ((upd (upd (upd d_hM.2.1 (10 + 731 * i2 + (3 : Int)).toNat z16) (10 + 731 * i2 + ((129 : Int) + τ.1.toInt)).toNat (1 : Int32)) (10 + 731 * i2 + ((9 : Int) + τ.1.toInt)).toNat z93) (10 + 731 * i2 + (5 : Int)).toNat)), (0, .ref o), (1, .int (μ.2.1 (0 : Int).toNat))] := hl
                refine lv_goto (tgt := 9) hx hb dX5_goBy_233 (by decide) ?_
                exact ih9 z122 (i2 + (1 : Int)) e122 (d_hM.1, upd (upd (upd (upd (upd d_hM.2.1 (10 + 731 * i2 + (3 : Int)).toNat z16) (10 + 731 * i2 + ((129 : Int) + τ.1.toInt)).toNat (1 : Int32)) (10 + 731 * i2 + ((9 : Int) + τ.1.toInt)).toNat z93) (10 + 731 * i2 + (4 : Int)).toNat z117) (10 + 731 * i2 + (7 : Int)).toNat z121, d_hM.2.2.1, d_hM.2.2.2.1, d_hM.2.2.2.2) (by omega) (by omega) ⟨hi9_1.1.on hok ht9 hn9 (by assumption) (by assumption) (by assumption) (by assumption) (by assumption), hi9_1.2⟩ _ _ hM hS ls (lv_sub hl [3, 4, 0] rfl)
              · refine lv_iload_n hx hb dX5_goBy_214 rfl (lv_at hl 3 rfl) ?_
                refine lv_iconst (v := (1 : Int32)) hx hb dX5_goBy_215 (by decide) ?_
                refine z_iadd hx hb hcl1 kI_1 dX5_goBy_216 (by omega) (fun z123 e123 => ?_)
                refine lv_iload hx hb dX5_goBy_217 (lv_at hl 0 rfl) ?_
                refine z_iremp hx hb e123 hcl97 dX5_goBy_219 (by omega) (fun z124 e124 => ?_)
                refine z_if_ne (tgt := 227) hx hb e124 dX5_goBy_220 (by decide) (fun c_125 => ?_) (fun c_125 => ?_)
                · have hs7 := sunkN_f (d := (τ.2.2 i2.toNat)) (h := τ.1.toInt) (fun q => c_125 q.2)
                  refine lv_iconst (v := (0 : Int32)) hx hb dX5_goBy_227 (by decide) ?_
                  refine z_iadd hx hb hcl119 kI_0 dX5_goBy_228 (by omega) (fun z126 e126 => ?_)
                  have e126 : z126.toInt = sunkN (τ.2.2 i2.toNat) τ.1.toInt := by rw [e126]; omega
                  refine z_iastMs hx hb hK hM hS (by simp only [iv]; omega) e118 (by omega) dX5_goBy_229 (fun H locs hM hsz hq hS => ?_)
                  have hM : MO G H o (d_hM.1, upd (upd (upd (upd (upd d_hM.2.1 (10 + 731 * i2 + (3 : Int)).toNat z16) (10 + 731 * i2 + ((129 : Int) + τ.1.toInt)).toNat (1 : Int32)) (10 + 731 * i2 + ((9 : Int) + τ.1.toInt)).toNat z93) (10 + 731 * i2 + (4 : Int)).toNat z117) (10 + 731 * i2 + (7 : Int)).toNat z126, d_hM.2.2.1, d_hM.2.2.2.1, d_hM.2.2.2.2) := hM
                  refine z_iinc (k := 4) hx hb dX5_goBy_230 hl rfl hx2 (show (Int32.ofInt 1).toInt = (1 : Int) from rfl) (by omega) (by decide) (fun z127 e127 ls hl => ?_)
                  have hl : lv_has ls 5 [(2, .int z127), (4, .int ((upd (upd (upd d_hM.2.1 (10 + 731 * i2 + (3 : Int)).toNat z16) (10 + 731 * i2 + ((129 : Int) + τ.1.toInt)).toNat (1 : Int32)) (10 + 731 * i2 + ((9 : Int) + τ.1.toInt)).toNat z93) (10 + 731 * i2 + (6 : Int)).toNat)), (3, .int ((upd (upd (upd d_hM.2.1 (10 + 731 * i2 + (3 : Int)).toNat z16) (10 + 731 * i2 + ((129 : Int) + τ.1.toInt)).toNat (1 : Int32)) (10 + 731 * i2 + ((9 : Int) + τ.1.toInt)).toNat z93) (10 + 731 * i2 + (5 : Int)).toNat)), (0, .ref o), (1, .int (μ.2.1 (0 : Int).toNat))] := hl
                  refine lv_goto (tgt := 9) hx hb dX5_goBy_233 (by decide) ?_
                  exact ih9 z127 (i2 + (1 : Int)) e127 (d_hM.1, upd (upd (upd (upd (upd d_hM.2.1 (10 + 731 * i2 + (3 : Int)).toNat z16) (10 + 731 * i2 + ((129 : Int) + τ.1.toInt)).toNat (1 : Int32)) (10 + 731 * i2 + ((9 : Int) + τ.1.toInt)).toNat z93) (10 + 731 * i2 + (4 : Int)).toNat z117) (10 + 731 * i2 + (7 : Int)).toNat z126, d_hM.2.2.1, d_hM.2.2.2.1, d_hM.2.2.2.2) (by omega) (by omega) ⟨hi9_1.1.on hok ht9 hn9 (by assumption) (by assumption) (by assumption) (by assumption) (by assumption), hi9_1.2⟩ _ _ hM hS ls (lv_sub hl [3, 4, 0] rfl)
                · have hs7 := sunkN_t (d := (τ.2.2 i2.toNat)) (h := τ.1.toInt) ⟨by omega, c_125⟩
                  refine lv_iconst (v := (1 : Int32)) hx hb dX5_goBy_223 (by decide) ?_
                  refine lv_goto (tgt := 228) hx hb dX5_goBy_224 (by decide) ?_
                  refine z_iadd hx hb hcl119 kI_1 dX5_goBy_228 (by omega) (fun z128 e128 => ?_)
                  have e128 : z128.toInt = sunkN (τ.2.2 i2.toNat) τ.1.toInt := by rw [e128]; omega
                  refine z_iastMs hx hb hK hM hS (by simp only [iv]; omega) e118 (by omega) dX5_goBy_229 (fun H locs hM hsz hq hS => ?_)
                  have hM : MO G H o (d_hM.1, upd (upd (upd (upd (upd d_hM.2.1 (10 + 731 * i2 + (3 : Int)).toNat z16) (10 + 731 * i2 + ((129 : Int) + τ.1.toInt)).toNat (1 : Int32)) (10 + 731 * i2 + ((9 : Int) + τ.1.toInt)).toNat z93) (10 + 731 * i2 + (4 : Int)).toNat z117) (10 + 731 * i2 + (7 : Int)).toNat z128, d_hM.2.2.1, d_hM.2.2.2.1, d_hM.2.2.2.2) := hM
                  refine z_iinc (k := 4) hx hb dX5_goBy_230 hl rfl hx2 (show (Int32.ofInt 1).toInt = (1 : Int) from rfl) (by omega) (by decide) (fun z129 e129 ls hl => ?_)
                  have hl : lv_has ls 5 [(2, .int z129), (4, .int ((upd (upd (upd d_hM.2.1 (10 + 731 * i2 + (3 : Int)).toNat z16) (10 + 731 * i2 + ((129 : Int) + τ.1.toInt)).toNat (1 : Int32)) (10 + 731 * i2 + ((9 : Int) + τ.1.toInt)).toNat z93) (10 + 731 * i2 + (6 : Int)).toNat)), (3, .int ((upd (upd (upd d_hM.2.1 (10 + 731 * i2 + (3 : Int)).toNat z16) (10 + 731 * i2 + ((129 : Int) + τ.1.toInt)).toNat (1 : Int32)) (10 + 731 * i2 + ((9 : Int) + τ.1.toInt)).toNat z93) (10 + 731 * i2 + (5 : Int)).toNat)), (0, .ref o), (1, .int (μ.2.1 (0 : Int).toNat))] := hl
                  refine lv_goto (tgt := 9) hx hb dX5_goBy_233 (by decide) ?_
                  exact ih9 z129 (i2 + (1 : Int)) e129 (d_hM.1, upd (upd (upd (upd (upd d_hM.2.1 (10 + 731 * i2 + (3 : Int)).toNat z16) (10 + 731 * i2 + ((129 : Int) + τ.1.toInt)).toNat (1 : Int32)) (10 + 731 * i2 + ((9 : Int) + τ.1.toInt)).toNat z93) (10 + 731 * i2 + (4 : Int)).toNat z117) (10 + 731 * i2 + (7 : Int)).toNat z128, d_hM.2.2.1, d_hM.2.2.2.1, d_hM.2.2.2.2) (by omega) (by omega) ⟨hi9_1.1.on hok ht9 hn9 (by assumption) (by assumption) (by assumption) (by assumption) (by assumption), hi9_1.2⟩ _ _ hM hS ls (lv_sub hl [3, 4, 0] rfl)
            · have hA4 := c_116
              refine lv_aload_n hx hb dX5_goBy_175 rfl (lv_at hl 2 rfl) ?_
              refine z_get hx hb hts iwX5_goBy_5 hown hK hM.1 rfl 0 (by decide) flX5_goBy_7 rfl (v := .ref (o + 1)) rfl dX5_goBy_176 ?_
              refine lv_iload_n hx hb dX5_goBy_179 rfl (lv_at hl 4 rfl) ?_
              refine lv_iconst (v := (4 : Int32)) hx hb dX5_goBy_180 (by decide) ?_
              refine z_cS (As := [.int x2, .int (4 : Int32)]) (rest := [.ref (o + 1), .int ((upd (upd (upd d_hM.2.1 (10 + 731 * i2 + (3 : Int)).toNat z16) (10 + 731 * i2 + ((129 : Int) + τ.1.toInt)).toNat (1 : Int32)) (10 + 731 * i2 + ((9 : Int) + τ.1.toInt)).toNat z93) (10 + 731 * i2 + (4 : Int)).toNat), .int z98, .ref (o + 1)]) ⟨hx, hb, hml, hown, hts⟩ (kX5_of l G x2 i2 hx2 (4 : Int32) (4 : Int) kI_4 (by first | assumption | omega)) (va_cwS 2 hts gX5_goBy_X5_of rfl rfl rfl hyX5_of ⟨Nat.le_of_ble_eq_true rfl, Nat.le_of_ble_eq_true rfl⟩) hK trivial rfl hl.1 rfl (Nat.le_of_ble_eq_true rfl) dX5_goBy_181 ⟨Nat.zero_le _, Nat.zero_le _⟩ (fun z130 e130 => ?_)
              have e130 : z130.toInt = 10 + 731 * i2 + (4 : Int) := e130
              refine z_iald (f := upd (upd (upd d_hM.2.1 (10 + 731 * i2 + (3 : Int)).toNat z16) (10 + 731 * i2 + ((129 : Int) + τ.1.toInt)).toNat (1 : Int32)) (10 + 731 * i2 + ((9 : Int) + τ.1.toInt)).toNat z93) hx hb hK 0 hM.2.1 rfl e130 (by omega) dX5_goBy_184 ?_
              have hcl131 : ((upd (upd (upd d_hM.2.1 (10 + 731 * i2 + (3 : Int)).toNat z16) (10 + 731 * i2 + ((129 : Int) + τ.1.toInt)).toNat (1 : Int32)) (10 + 731 * i2 + ((9 : Int) + τ.1.toInt)).toNat z93) (10 + 731 * i2 + (4 : Int)).toNat).toInt = ((τ.2.2 i2.toNat).1 4).toInt := (by (repeat rw [upd_ne (by omega)]); exact hqs 4 (by omega) (by omega))
              refine lv_bipush (v := (90 : Int32)) hx hb dX5_goBy_185 (by decide) ?_
              refine z_icmp_ge (tgt := 194) hx hb hcl131 kI_90 dX5_goBy_187 (by decide) (fun c_132 => ?_) (fun c_132 => ?_)
              · have hs4 := siltN_f2 (d := (τ.2.2 i2.toNat)) (h := τ.1.toInt) c_132
                refine lv_iconst (v := (0 : Int32)) hx hb dX5_goBy_194 (by decide) ?_
                refine z_iadd hx hb hcl99 kI_0 dX5_goBy_195 (by omega) (fun z133 e133 => ?_)
                have e133 : z133.toInt = siltN (τ.2.2 i2.toNat) τ.1.toInt := by rw [e133]; omega
                refine z_iastMs hx hb hK hM hS (by simp only [iv]; omega) e98 (by omega) dX5_goBy_196 (fun H locs hM hsz hq hS => ?_)
                have hM : MO G H o (d_hM.1, upd (upd (upd (upd d_hM.2.1 (10 + 731 * i2 + (3 : Int)).toNat z16) (10 + 731 * i2 + ((129 : Int) + τ.1.toInt)).toNat (1 : Int32)) (10 + 731 * i2 + ((9 : Int) + τ.1.toInt)).toNat z93) (10 + 731 * i2 + (4 : Int)).toNat z133, d_hM.2.2.1, d_hM.2.2.2.1, d_hM.2.2.2.2) := hM
                refine lv_aload_n hx hb dX5_goBy_197 rfl (lv_at hl 2 rfl) ?_
                refine z_get hx hb hts iwX5_goBy_5 hown hK hM.1 rfl 0 (by decide) flX5_goBy_7 rfl (v := .ref (o + 1)) rfl dX5_goBy_198 ?_
                refine lv_iload_n hx hb dX5_goBy_201 rfl (lv_at hl 4 rfl) ?_
                refine lv_bipush (v := (7 : Int32)) hx hb dX5_goBy_202 (by decide) ?_
                refine z_cS (As := [.int x2, .int (7 : Int32)]) (rest := [.ref (o + 1)]) ⟨hx, hb, hml, hown, hts⟩ (kX5_of l G x2 i2 hx2 (7 : Int32) (7 : Int) kI_7 (by first | assumption | omega)) (va_cwS 2 hts gX5_goBy_X5_of rfl rfl rfl hyX5_of ⟨Nat.le_of_ble_eq_true rfl, Nat.le_of_ble_eq_true rfl⟩) hK trivial rfl hl.1 rfl (Nat.le_of_ble_eq_true rfl) dX5_goBy_204 ⟨Nat.zero_le _, Nat.zero_le _⟩ (fun z134 e134 => ?_)
                have e134 : z134.toInt = 10 + 731 * i2 + (7 : Int) := e134
                refine lv_dup2_11 hx hb dX5_goBy_207 rfl rfl ?_
                refine z_iald (f := upd (upd (upd (upd d_hM.2.1 (10 + 731 * i2 + (3 : Int)).toNat z16) (10 + 731 * i2 + ((129 : Int) + τ.1.toInt)).toNat (1 : Int32)) (10 + 731 * i2 + ((9 : Int) + τ.1.toInt)).toNat z93) (10 + 731 * i2 + (4 : Int)).toNat z133) hx hb hK 0 hM.2.1 rfl e134 (by omega) dX5_goBy_208 ?_
                have hcl135 : ((upd (upd (upd (upd d_hM.2.1 (10 + 731 * i2 + (3 : Int)).toNat z16) (10 + 731 * i2 + ((129 : Int) + τ.1.toInt)).toNat (1 : Int32)) (10 + 731 * i2 + ((9 : Int) + τ.1.toInt)).toNat z93) (10 + 731 * i2 + (4 : Int)).toNat z133) (10 + 731 * i2 + (7 : Int)).toNat).toInt = ((τ.2.2 i2.toNat).1 7).toInt := (by (repeat rw [upd_ne (by omega)]); exact hqs 7 (by omega) (by omega))
                refine lv_iload hx hb dX5_goBy_209 (lv_at hl 0 rfl) ?_
                refine z_if_le (tgt := 227) hx hb hcl97 dX5_goBy_211 (by decide) (fun c_136 => ?_) (fun c_136 => ?_)
                · have hs7 := sunkN_f (d := (τ.2.2 i2.toNat)) (h := τ.1.toInt) (fun q => by omega)
                  refine lv_iconst (v := (0 : Int32)) hx hb dX5_goBy_227 (by decide) ?_
                  refine z_iadd hx hb hcl135 kI_0 dX5_goBy_228 (by omega) (fun z137 e137 => ?_)
                  have e137 : z137.toInt = sunkN (τ.2.2 i2.toNat) τ.1.toInt := by rw [e137]; omega
                  refine z_iastMs hx hb hK hM hS (by simp only [iv]; omega) e134 (by omega) dX5_goBy_229 (fun H locs hM hsz hq hS => ?_)
                  have hM : MO G H o (d_hM.1, upd (upd (upd (upd (upd d_hM.2.1 (10 + 731 * i2 + (3 : Int)).toNat z16) (10 + 731 * i2 + ((129 : Int) + τ.1.toInt)).toNat (1 : Int32)) (10 + 731 * i2 + ((9 : Int) + τ.1.toInt)).toNat z93) (10 + 731 * i2 + (4 : Int)).toNat z133) (10 + 731 * i2 + (7 : Int)).toNat z137, d_hM.2.2.1, d_hM.2.2.2.1, d_hM.2.2.2.2) := hM
                  refine z_iinc (k := 4) hx hb dX5_goBy_230 hl rfl hx2 (show (Int32.ofInt 1).toInt = (1 : Int) from rfl) (by omega) (by decide) (fun z138 e138 ls hl => ?_)
                  have hl : lv_has ls 5 [(2, .int z138), (4, .int ((upd (upd (upd d_hM.2.1 (10 + 731 * i2 + (3 : Int)).toNat z16) (10 + 731 * i2 + ((129 : Int) + τ.1.toInt)).toNat (1 : Int32)) (10 + 731 * i2 + ((9 : Int) + τ.1.toInt)).toNat z93) (10 + 731 * i2 + (6 : Int)).toNat)), (3, .int ((upd (upd (upd d_hM.2.1 (10 + 731 * i2 + (3 : Int)).toNat z16) (10 + 731 * i2 + ((129 : Int) + τ.1.toInt)).toNat (1 : Int32)) (10 + 731 * i2 + ((9 : Int) + τ.1.toInt)).toNat z93) (10 + 731 * i2 + (5 : Int)).toNat)), (0, .ref o), (1, .int (μ.2.1 (0 : Int).toNat))] := hl
                  refine lv_goto (tgt := 9) hx hb dX5_goBy_233 (by decide) ?_
                  exact ih9 z138 (i2 + (1 : Int)) e138 (d_hM.1, upd (upd (upd (upd (upd d_hM.2.1 (10 + 731 * i2 + (3 : Int)).toNat z16) (10 + 731 * i2 + ((129 : Int) + τ.1.toInt)).toNat (1 : Int32)) (10 + 731 * i2 + ((9 : Int) + τ.1.toInt)).toNat z93) (10 + 731 * i2 + (4 : Int)).toNat z133) (10 + 731 * i2 + (7 : Int)).toNat z137, d_hM.2.2.1, d_hM.2.2.2.1, d_hM.2.2.2.2) (by omega) (by omega) ⟨hi9_1.1.on hok ht9 hn9 (by assumption) (by assumption) (by assumption) (by assumption) (by assumption), hi9_1.2⟩ _ _ hM hS ls (lv_sub hl [3, 4, 0] rfl)
                · refine lv_iload_n hx hb dX5_goBy_214 rfl (lv_at hl 3 rfl) ?_
                  refine lv_iconst (v := (1 : Int32)) hx hb dX5_goBy_215 (by decide) ?_
                  refine z_iadd hx hb hcl1 kI_1 dX5_goBy_216 (by omega) (fun z139 e139 => ?_)
                  refine lv_iload hx hb dX5_goBy_217 (lv_at hl 0 rfl) ?_
                  refine z_iremp hx hb e139 hcl97 dX5_goBy_219 (by omega) (fun z140 e140 => ?_)
                  refine z_if_ne (tgt := 227) hx hb e140 dX5_goBy_220 (by decide) (fun c_141 => ?_) (fun c_141 => ?_)
                  · have hs7 := sunkN_f (d := (τ.2.2 i2.toNat)) (h := τ.1.toInt) (fun q => c_141 q.2)
                    refine lv_iconst (v := (0 : Int32)) hx hb dX5_goBy_227 (by decide) ?_
                    refine z_iadd hx hb hcl135 kI_0 dX5_goBy_228 (by omega) (fun z142 e142 => ?_)
                    have e142 : z142.toInt = sunkN (τ.2.2 i2.toNat) τ.1.toInt := by rw [e142]; omega
                    refine z_iastMs hx hb hK hM hS (by simp only [iv]; omega) e134 (by omega) dX5_goBy_229 (fun H locs hM hsz hq hS => ?_)
                    have hM : MO G H o (d_hM.1, upd (upd (upd (upd (upd d_hM.2.1 (10 + 731 * i2 + (3 : Int)).toNat z16) (10 + 731 * i2 + ((129 : Int) + τ.1.toInt)).toNat (1 : Int32)) (10 + 731 * i2 + ((9 : Int) + τ.1.toInt)).toNat z93) (10 + 731 * i2 + (4 : Int)).toNat z133) (10 + 731 * i2 + (7 : Int)).toNat z142, d_hM.2.2.1, d_hM.2.2.2.1, d_hM.2.2.2.2) := hM
                    refine z_iinc (k := 4) hx hb dX5_goBy_230 hl rfl hx2 (show (Int32.ofInt 1).toInt = (1 : Int) from rfl) (by omega) (by decide) (fun z143 e143 ls hl => ?_)
                    have hl : lv_has ls 5 [(2, .int z143), (4, .int ((upd (upd (upd d_hM.2.1 (10 + 731 * i2 + (3 : Int)).toNat z16) (10 + 731 * i2 + ((129 : Int) + τ.1.toInt)).toNat (1 : Int32)) (10 + 731 * i2 + ((9 : Int) + τ.1.toInt)).toNat z93) (10 + 731 * i2 + (6 : Int)).toNat)), (3, .int ((upd (upd (upd d_hM.2.1 (10 + 731 * i2 + (3 : Int)).toNat z16) (10 + 731 * i2 + ((129 : Int) + τ.1.toInt)).toNat (1 : Int32)) (10 + 731 * i2 + ((9 : Int) + τ.1.toInt)).toNat z93) (10 + 731 * i2 + (5 : Int)).toNat)), (0, .ref o), (1, .int (μ.2.1 (0 : Int).toNat))] := hl
                    refine lv_goto (tgt := 9) hx hb dX5_goBy_233 (by decide) ?_
                    exact ih9 z143 (i2 + (1 : Int)) e143 (d_hM.1, upd (upd (upd (upd (upd d_hM.2.1 (10 + 731 * i2 + (3 : Int)).toNat z16) (10 + 731 * i2 + ((129 : Int) + τ.1.toInt)).toNat (1 : Int32)) (10 + 731 * i2 + ((9 : Int) + τ.1.toInt)).toNat z93) (10 + 731 * i2 + (4 : Int)).toNat z133) (10 + 731 * i2 + (7 : Int)).toNat z142, d_hM.2.2.1, d_hM.2.2.2.1, d_hM.2.2.2.2) (by omega) (by omega) ⟨hi9_1.1.on hok ht9 hn9 (by assumption) (by assumption) (by assumption) (by assumption) (by assumption), hi9_1.2⟩ _ _ hM hS ls (lv_sub hl [3, 4, 0] rfl)
                  · have hs7 := sunkN_t (d := (τ.2.2 i2.toNat)) (h := τ.1.toInt) ⟨by omega, c_141⟩
                    refine lv_iconst (v := (1 : Int32)) hx hb dX5_goBy_223 (by decide) ?_
                    refine lv_goto (tgt := 228) hx hb dX5_goBy_224 (by decide) ?_
                    refine z_iadd hx hb hcl135 kI_1 dX5_goBy_228 (by omega) (fun z144 e144 => ?_)
                    have e144 : z144.toInt = sunkN (τ.2.2 i2.toNat) τ.1.toInt := by rw [e144]; omega
                    refine z_iastMs hx hb hK hM hS (by simp only [iv]; omega) e134 (by omega) dX5_goBy_229 (fun H locs hM hsz hq hS => ?_)
                    have hM : MO G H o (d_hM.1, upd (upd (upd (upd (upd d_hM.2.1 (10 + 731 * i2 + (3 : Int)).toNat z16) (10 + 731 * i2 + ((129 : Int) + τ.1.toInt)).toNat (1 : Int32)) (10 + 731 * i2 + ((9 : Int) + τ.1.toInt)).toNat z93) (10 + 731 * i2 + (4 : Int)).toNat z133) (10 + 731 * i2 + (7 : Int)).toNat z144, d_hM.2.2.1, d_hM.2.2.2.1, d_hM.2.2.2.2) := hM
                    refine z_iinc (k := 4) hx hb dX5_goBy_230 hl rfl hx2 (show (Int32.ofInt 1).toInt = (1 : Int) from rfl) (by omega) (by decide) (fun z145 e145 ls hl => ?_)
                    have hl : lv_has ls 5 [(2, .int z145), (4, .int ((upd (upd (upd d_hM.2.1 (10 + 731 * i2 + (3 : Int)).toNat z16) (10 + 731 * i2 + ((129 : Int) + τ.1.toInt)).toNat (1 : Int32)) (10 + 731 * i2 + ((9 : Int) + τ.1.toInt)).toNat z93) (10 + 731 * i2 + (6 : Int)).toNat)), (3, .int ((upd (upd (upd d_hM.2.1 (10 + 731 * i2 + (3 : Int)).toNat z16) (10 + 731 * i2 + ((129 : Int) + τ.1.toInt)).toNat (1 : Int32)) (10 + 731 * i2 + ((9 : Int) + τ.1.toInt)).toNat z93) (10 + 731 * i2 + (5 : Int)).toNat)), (0, .ref o), (1, .int (μ.2.1 (0 : Int).toNat))] := hl
                    refine lv_goto (tgt := 9) hx hb dX5_goBy_233 (by decide) ?_
                    exact ih9 z145 (i2 + (1 : Int)) e145 (d_hM.1, upd (upd (upd (upd (upd d_hM.2.1 (10 + 731 * i2 + (3 : Int)).toNat z16) (10 + 731 * i2 + ((129 : Int) + τ.1.toInt)).toNat (1 : Int32)) (10 + 731 * i2 + ((9 : Int) + τ.1.toInt)).toNat z93) (10 + 731 * i2 + (4 : Int)).toNat z133) (10 + 731 * i2 + (7 : Int)).toNat z144, d_hM.2.2.1, d_hM.2.2.2.1, d_hM.2.2.2.2) (by omega) (by omega) ⟨hi9_1.1.on hok ht9 hn9 (by assumption) (by assumption) (by assumption) (by assumption) (by assumption), hi9_1.2⟩ _ _ hM hS ls (lv_sub hl [3, 4, 0] rfl)
              · have hs4 := siltN_t (d := (τ.2.2 i2.toNat)) (h := τ.1.toInt) ⟨by omega, hA4⟩ c_132
                refine lv_iconst (v := (1 : Int32)) hx hb dX5_goBy_190 (by decide) ?_
                refine lv_goto (tgt := 195) hx hb dX5_goBy_191 (by decide) ?_
                refine z_iadd hx hb hcl99 kI_1 dX5_goBy_195 (by omega) (fun z146 e146 => ?_)
                have e146 : z146.toInt = siltN (τ.2.2 i2.toNat) τ.1.toInt := by rw [e146]; omega
                refine z_iastMs hx hb hK hM hS (by simp only [iv]; omega) e98 (by omega) dX5_goBy_196 (fun H locs hM hsz hq hS => ?_)
                have hM : MO G H o (d_hM.1, upd (upd (upd (upd d_hM.2.1 (10 + 731 * i2 + (3 : Int)).toNat z16) (10 + 731 * i2 + ((129 : Int) + τ.1.toInt)).toNat (1 : Int32)) (10 + 731 * i2 + ((9 : Int) + τ.1.toInt)).toNat z93) (10 + 731 * i2 + (4 : Int)).toNat z146, d_hM.2.2.1, d_hM.2.2.2.1, d_hM.2.2.2.2) := hM
                refine lv_aload_n hx hb dX5_goBy_197 rfl (lv_at hl 2 rfl) ?_
                refine z_get hx hb hts iwX5_goBy_5 hown hK hM.1 rfl 0 (by decide) flX5_goBy_7 rfl (v := .ref (o + 1)) rfl dX5_goBy_198 ?_
                refine lv_iload_n hx hb dX5_goBy_201 rfl (lv_at hl 4 rfl) ?_
                refine lv_bipush (v := (7 : Int32)) hx hb dX5_goBy_202 (by decide) ?_
                refine z_cS (As := [.int x2, .int (7 : Int32)]) (rest := [.ref (o + 1)]) ⟨hx, hb, hml, hown, hts⟩ (kX5_of l G x2 i2 hx2 (7 : Int32) (7 : Int) kI_7 (by first | assumption | omega)) (va_cwS 2 hts gX5_goBy_X5_of rfl rfl rfl hyX5_of ⟨Nat.le_of_ble_eq_true rfl, Nat.le_of_ble_eq_true rfl⟩) hK trivial rfl hl.1 rfl (Nat.le_of_ble_eq_true rfl) dX5_goBy_204 ⟨Nat.zero_le _, Nat.zero_le _⟩ (fun z147 e147 => ?_)
                have e147 : z147.toInt = 10 + 731 * i2 + (7 : Int) := e147
                refine lv_dup2_11 hx hb dX5_goBy_207 rfl rfl ?_
                refine z_iald (f := upd (upd (upd (upd d_hM.2.1 (10 + 731 * i2 + (3 : Int)).toNat z16) (10 + 731 * i2 + ((129 : Int) + τ.1.toInt)).toNat (1 : Int32)) (10 + 731 * i2 + ((9 : Int) + τ.1.toInt)).toNat z93) (10 + 731 * i2 + (4 : Int)).toNat z146) hx hb hK 0 hM.2.1 rfl e147 (by omega) dX5_goBy_208 ?_
                have hcl148 : ((upd (upd (upd (upd d_hM.2.1 (10 + 731 * i2 + (3 : Int)).toNat z16) (10 + 731 * i2 + ((129 : Int) + τ.1.toInt)).toNat (1 : Int32)) (10 + 731 * i2 + ((9 : Int) + τ.1.toInt)).toNat z93) (10 + 731 * i2 + (4 : Int)).toNat z146) (10 + 731 * i2 + (7 : Int)).toNat).toInt = ((τ.2.2 i2.toNat).1 7).toInt := (by (repeat rw [upd_ne (by omega)]); exact hqs 7 (by omega) (by omega))
                refine lv_iload hx hb dX5_goBy_209 (lv_at hl 0 rfl) ?_
                refine z_if_le (tgt := 227) hx hb hcl97 dX5_goBy_211 (by decide) (fun c_149 => ?_) (fun c_149 => ?_)
                · have hs7 := sunkN_f (d := (τ.2.2 i2.toNat)) (h := τ.1.toInt) (fun q => by omega)
                  refine lv_iconst (v := (0 : Int32)) hx hb dX5_goBy_227 (by decide) ?_
                  refine z_iadd hx hb hcl148 kI_0 dX5_goBy_228 (by omega) (fun z150 e150 => ?_)
                  have e150 : z150.toInt = sunkN (τ.2.2 i2.toNat) τ.1.toInt := by rw [e150]; omega
                  refine z_iastMs hx hb hK hM hS (by simp only [iv]; omega) e147 (by omega) dX5_goBy_229 (fun H locs hM hsz hq hS => ?_)
                  have hM : MO G H o (d_hM.1, upd (upd (upd (upd (upd d_hM.2.1 (10 + 731 * i2 + (3 : Int)).toNat z16) (10 + 731 * i2 + ((129 : Int) + τ.1.toInt)).toNat (1 : Int32)) (10 + 731 * i2 + ((9 : Int) + τ.1.toInt)).toNat z93) (10 + 731 * i2 + (4 : Int)).toNat z146) (10 + 731 * i2 + (7 : Int)).toNat z150, d_hM.2.2.1, d_hM.2.2.2.1, d_hM.2.2.2.2) := hM
                  refine z_iinc (k := 4) hx hb dX5_goBy_230 hl rfl hx2 (show (Int32.ofInt 1).toInt = (1 : Int) from rfl) (by omega) (by decide) (fun z151 e151 ls hl => ?_)
                  have hl : lv_has ls 5 [(2, .int z151), (4, .int ((upd (upd (upd d_hM.2.1 (10 + 731 * i2 + (3 : Int)).toNat z16) (10 + 731 * i2 + ((129 : Int) + τ.1.toInt)).toNat (1 : Int32)) (10 + 731 * i2 + ((9 : Int) + τ.1.toInt)).toNat z93) (10 + 731 * i2 + (6 : Int)).toNat)), (3, .int ((upd (upd (upd d_hM.2.1 (10 + 731 * i2 + (3 : Int)).toNat z16) (10 + 731 * i2 + ((129 : Int) + τ.1.toInt)).toNat (1 : Int32)) (10 + 731 * i2 + ((9 : Int) + τ.1.toInt)).toNat z93) (10 + 731 * i2 + (5 : Int)).toNat)), (0, .ref o), (1, .int (μ.2.1 (0 : Int).toNat))] := hl
                  refine lv_goto (tgt := 9) hx hb dX5_goBy_233 (by decide) ?_
                  exact ih9 z151 (i2 + (1 : Int)) e151 (d_hM.1, upd (upd (upd (upd (upd d_hM.2.1 (10 + 731 * i2 + (3 : Int)).toNat z16) (10 + 731 * i2 + ((129 : Int) + τ.1.toInt)).toNat (1 : Int32)) (10 + 731 * i2 + ((9 : Int) + τ.1.toInt)).toNat z93) (10 + 731 * i2 + (4 : Int)).toNat z146) (10 + 731 * i2 + (7 : Int)).toNat z150, d_hM.2.2.1, d_hM.2.2.2.1, d_hM.2.2.2.2) (by omega) (by omega) ⟨hi9_1.1.on hok ht9 hn9 (by assumption) (by assumption) (by assumption) (by assumption) (by assumption), hi9_1.2⟩ _ _ hM hS ls (lv_sub hl [3, 4, 0] rfl)
                · refine lv_iload_n hx hb dX5_goBy_214 rfl (lv_at hl 3 rfl) ?_
                  refine lv_iconst (v := (1 : Int32)) hx hb dX5_goBy_215 (by decide) ?_
                  refine z_iadd hx hb hcl1 kI_1 dX5_goBy_216 (by omega) (fun z152 e152 => ?_)
                  refine lv_iload hx hb dX5_goBy_217 (lv_at hl 0 rfl) ?_
                  refine z_iremp hx hb e152 hcl97 dX5_goBy_219 (by omega) (fun z153 e153 => ?_)
                  refine z_if_ne (tgt := 227) hx hb e153 dX5_goBy_220 (by decide) (fun c_154 => ?_) (fun c_154 => ?_)
                  · have hs7 := sunkN_f (d := (τ.2.2 i2.toNat)) (h := τ.1.toInt) (fun q => c_154 q.2)
                    refine lv_iconst (v := (0 : Int32)) hx hb dX5_goBy_227 (by decide) ?_
                    refine z_iadd hx hb hcl148 kI_0 dX5_goBy_228 (by omega) (fun z155 e155 => ?_)
                    have e155 : z155.toInt = sunkN (τ.2.2 i2.toNat) τ.1.toInt := by rw [e155]; omega
                    refine z_iastMs hx hb hK hM hS (by simp only [iv]; omega) e147 (by omega) dX5_goBy_229 (fun H locs hM hsz hq hS => ?_)
                    have hM : MO G H o (d_hM.1, upd (upd (upd (upd (upd d_hM.2.1 (10 + 731 * i2 + (3 : Int)).toNat z16) (10 + 731 * i2 + ((129 : Int) + τ.1.toInt)).toNat (1 : Int32)) (10 + 731 * i2 + ((9 : Int) + τ.1.toInt)).toNat z93) (10 + 731 * i2 + (4 : Int)).toNat z146) (10 + 731 * i2 + (7 : Int)).toNat z155, d_hM.2.2.1, d_hM.2.2.2.1, d_hM.2.2.2.2) := hM
                    refine z_iinc (k := 4) hx hb dX5_goBy_230 hl rfl hx2 (show (Int32.ofInt 1).toInt = (1 : Int) from rfl) (by omega) (by decide) (fun z156 e156 ls hl => ?_)
                    have hl : lv_has ls 5 [(2, .int z156), (4, .int ((upd (upd (upd d_hM.2.1 (10 + 731 * i2 + (3 : Int)).toNat z16) (10 + 731 * i2 + ((129 : Int) + τ.1.toInt)).toNat (1 : Int32)) (10 + 731 * i2 + ((9 : Int) + τ.1.toInt)).toNat z93) (10 + 731 * i2 + (6 : Int)).toNat)), (3, .int ((upd (upd (upd d_hM.2.1 (10 + 731 * i2 + (3 : Int)).toNat z16) (10 + 731 * i2 + ((129 : Int) + τ.1.toInt)).toNat (1 : Int32)) (10 + 731 * i2 + ((9 : Int) + τ.1.toInt)).toNat z93) (10 + 731 * i2 + (5 : Int)).toNat)), (0, .ref o), (1, .int (μ.2.1 (0 : Int).toNat))] := hl
                    refine lv_goto (tgt := 9) hx hb dX5_goBy_233 (by decide) ?_
                    exact ih9 z156 (i2 + (1 : Int)) e156 (d_hM.1, upd (upd (upd (upd (upd d_hM.2.1 (10 + 731 * i2 + (3 : Int)).toNat z16) (10 + 731 * i2 + ((129 : Int) + τ.1.toInt)).toNat (1 : Int32)) (10 + 731 * i2 + ((9 : Int) + τ.1.toInt)).toNat z93) (10 + 731 * i2 + (4 : Int)).toNat z146) (10 + 731 * i2 + (7 : Int)).toNat z155, d_hM.2.2.1, d_hM.2.2.2.1, d_hM.2.2.2.2) (by omega) (by omega) ⟨hi9_1.1.on hok ht9 hn9 (by assumption) (by assumption) (by assumption) (by assumption) (by assumption), hi9_1.2⟩ _ _ hM hS ls (lv_sub hl [3, 4, 0] rfl)
                  · have hs7 := sunkN_t (d := (τ.2.2 i2.toNat)) (h := τ.1.toInt) ⟨by omega, c_154⟩
                    refine lv_iconst (v := (1 : Int32)) hx hb dX5_goBy_223 (by decide) ?_
                    refine lv_goto (tgt := 228) hx hb dX5_goBy_224 (by decide) ?_
                    refine z_iadd hx hb hcl148 kI_1 dX5_goBy_228 (by omega) (fun z157 e157 => ?_)
                    have e157 : z157.toInt = sunkN (τ.2.2 i2.toNat) τ.1.toInt := by rw [e157]; omega
                    refine z_iastMs hx hb hK hM hS (by simp only [iv]; omega) e147 (by omega) dX5_goBy_229 (fun H locs hM hsz hq hS => ?_)
                    have hM : MO G H o (d_hM.1, upd (upd (upd (upd (upd d_hM.2.1 (10 + 731 * i2 + (3 : Int)).toNat z16) (10 + 731 * i2 + ((129 : Int) + τ.1.toInt)).toNat (1 : Int32)) (10 + 731 * i2 + ((9 : Int) + τ.1.toInt)).toNat z93) (10 + 731 * i2 + (4 : Int)).toNat z146) (10 + 731 * i2 + (7 : Int)).toNat z157, d_hM.2.2.1, d_hM.2.2.2.1, d_hM.2.2.2.2) := hM
                    refine z_iinc (k := 4) hx hb dX5_goBy_230 hl rfl hx2 (show (Int32.ofInt 1).toInt = (1 : Int) from rfl) (by omega) (by decide) (fun z158 e158 ls hl => ?_)
                    have hl : lv_has ls 5 [(2, .int z158), (4, .int ((upd (upd (upd d_hM.2.1 (10 + 731 * i2 + (3 : Int)).toNat z16) (10 + 731 * i2 + ((129 : Int) + τ.1.toInt)).toNat (1 : Int32)) (10 + 731 * i2 + ((9 : Int) + τ.1.toInt)).toNat z93) (10 + 731 * i2 + (6 : Int)).toNat)), (3, .int ((upd (upd (upd d_hM.2.1 (10 + 731 * i2 + (3 : Int)).toNat z16) (10 + 731 * i2 + ((129 : Int) + τ.1.toInt)).toNat (1 : Int32)) (10 + 731 * i2 + ((9 : Int) + τ.1.toInt)).toNat z93) (10 + 731 * i2 + (5 : Int)).toNat)), (0, .ref o), (1, .int (μ.2.1 (0 : Int).toNat))] := hl
                    refine lv_goto (tgt := 9) hx hb dX5_goBy_233 (by decide) ?_
                    exact ih9 z158 (i2 + (1 : Int)) e158 (d_hM.1, upd (upd (upd (upd (upd d_hM.2.1 (10 + 731 * i2 + (3 : Int)).toNat z16) (10 + 731 * i2 + ((129 : Int) + τ.1.toInt)).toNat (1 : Int32)) (10 + 731 * i2 + ((9 : Int) + τ.1.toInt)).toNat z93) (10 + 731 * i2 + (4 : Int)).toNat z146) (10 + 731 * i2 + (7 : Int)).toNat z157, d_hM.2.2.1, d_hM.2.2.2.1, d_hM.2.2.2.2) (by omega) (by omega) ⟨hi9_1.1.on hok ht9 hn9 (by assumption) (by assumption) (by assumption) (by assumption) (by assumption), hi9_1.2⟩ _ _ hM hS ls (lv_sub hl [3, 4, 0] rfl)
  exact cut9 (((3 - (0 : Int)).toNat) + 1) (0 : Int32) (0 : Int) kI_0 μ (Nat.lt_succ_self _) (by omega) ⟨Rq.zero hR, rfl, rfl⟩ _ _ hM hS ls (lv_sub hl [2, 1, 0] rfl)
