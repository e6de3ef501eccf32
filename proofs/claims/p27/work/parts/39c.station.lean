abbrev rmL_isStationSo : Room := { frames := 6, cells := 0, slots := 0, locals := 135 }
theorem hyL_isStationSo : yL_isStationSo.cls ≠ "java/lang/invoke/MethodHandle" ∧ yL_isStationSo.cls ≠ "java/lang/invoke/VarHandle" ∧ (parseMethodDescriptor yL_isStationSo.desc).map (fun d => d.parameters.length) = some 2 := by decide +kernel
set_option maxHeartbeats 4000000 in
set_option maxRecDepth 100000 in
theorem kL_isStationSo (l : Launch) (G : xG) (z : Nat) (σ : FD) (xt : Int32) (t : Int) (e_xt : xt.toInt = t) (hfx : fdX σ) (ht : 0 ≤ t ∧ t < 3) : Met l yL_isStationSo wsL_isStationSo rmL_isStationSo (va_Pc [.ref z, .int xt] (zPre G (fun H => SFP G H z σ))) (zS (fun v => isB v True)) 0 0 zno := by
  refine z_ofW (cc := cL_isStationSo) (maxL := 10) (ret := some .boolean) (by decide +kernel) rfl (Nat.le_of_ble_eq_true rfl) ?_
  intro p e s m below meth c hx hb hml hr hts hown hlocks hK hP ls hl
  have hF := hP
  have hown : s.vm.findClass RL = some m.cls := hown
  have hl : lv_has ls 10 [(0, .ref z), (1, .int xt)] := hl
  have hok := hfx.1
  have hcb := ac_b hok
  have hsg := st_gaps (σ := σ) ht
  have hwa := wid_all hfx ht
  have hgo : a_gap σ t (a_station σ t 10) 0 = -1 := by rw [hsg.1]; exact gp_out ht
  have hhe : a_hour σ t (a_count σ 0) 0 = -5 := by rw [hcb.2.1]; exact hr_end hfx ht (by omega)
  refine lv_aload_n hx hb dL_isStationSo_0 rfl (lv_at hl 0 rfl) ?_
  refine lv_iconst (v := (0 : Int32)) hx hb dL_isStationSo_1 (by decide) ?_
  refine z_cV (As := [.int (0 : Int32)]) (rest := []) ⟨hx, hb, hml, hown, hts⟩ (kX4_count l G z σ (0 : Int32) (0 : Int) kI_0 (by first | assumption | omega)) (cwV 1 hts gL_isStationSo_X4_count rfl rfl rfl hyX4_count ⟨Nat.le_of_ble_eq_true rfl, Nat.le_of_ble_eq_true rfl⟩) hK hF hF.1 rfl rfl hl.1 rfl (Nat.le_of_ble_eq_true rfl) dL_isStationSo_2 ⟨Nat.zero_le _, Nat.zero_le _⟩ (fun z1 e1 => ?_)
  have e1 : z1.toInt = a_count σ (0 : Int) := e1
  refine lv_istore_n hx hb dL_isStationSo_5 rfl hl (by decide) rfl (fun ls hl => ?_)
  have hl : lv_has ls 10 [(2, .int z1), (0, .ref z), (1, .int xt)] := hl
  refine lv_iconst (v := (0 : Int32)) hx hb dL_isStationSo_6 (by decide) ?_
  refine lv_istore_n hx hb dL_isStationSo_7 rfl hl (by decide) rfl (fun ls hl => ?_)
  have hl : lv_has ls 10 [(3, .int (0 : Int32)), (2, .int z1), (0, .ref z), (1, .int xt)] := hl
  refine lv_iconst (v := (0 : Int32)) hx hb dL_isStationSo_8 (by decide) ?_
  refine lv_istore hx hb dL_isStationSo_9 hl (by decide) rfl (fun ls hl => ?_)
  have hl : lv_has ls 10 [(4, .int (0 : Int32)), (3, .int (0 : Int32)), (2, .int z1), (0, .ref z), (1, .int xt)] := hl
  refine lv_iconst (v := (0 : Int32)) hx hb dL_isStationSo_11 (by decide) ?_
  refine lv_istore hx hb dL_isStationSo_12 hl (by decide) rfl (fun ls hl => ?_)
  have hl : lv_has ls 10 [(5, .int (0 : Int32)), (4, .int (0 : Int32)), (3, .int (0 : Int32)), (2, .int z1), (0, .ref z), (1, .int xt)] := hl
  have cut14 : ∀ (n14 : Nat), ∀ (x3 : Int32) (i3 : Int) (_ : x3.toInt = i3) (x5 : Int32) (i5 : Int) (_ : x5.toInt = i5), (σ.1.1.toInt - i5).toNat < n14 → (0 ≤ i5 ∧ i5 ≤ σ.1.1.toInt) → (i3 = cntZ (fun j => kindZ (σ.1.2.2 t.toNat) (j : Int) = 0) i5.toNat) → ∀ ls : Array Slot, lv_has ls 10 [(0, .ref z), (1, .int xt), (2, .int z1), (4, .int (0 : Int32)), (3, .int x3), (5, .int x5)] → W p l e rmL_isStationSo s m ([.ref z, .int xt] : List Value).toArray below meth c s.heap [] 0 0 (MQ below (zS (fun v => isB v True)) ([.ref z, .int xt] : List Value).toArray s 0 0 zno) (F0 m 14 ls []) := by
    intro n14
    induction n14 with
    | zero =>
      intro x3 i3 hx3 x5 i5 hx5 hmu14 hi14_0 hi14_1 ls hl
      exact absurd hmu14 (Nat.not_lt_zero _)
    | succ n14 ih14 =>
      intro x3 i3 hx3 x5 i5 hx5 hmu14 hi14_0 hi14_1 ls hl
      have hcn := cntZ_b (fun j => kindZ (σ.1.2.2 t.toNat) (j : Int) = 0) i5.toNat
      refine lv_iload hx hb dL_isStationSo_14 (lv_at hl 5 rfl) ?_
      refine lv_iload_n hx hb dL_isStationSo_16 rfl (lv_at hl 2 rfl) ?_
      refine z_icmp_ge (tgt := 178) hx hb hx5 e1 dL_isStationSo_17 (by decide) (fun c_2 => ?_) (fun c_2 => ?_)
      · have hrd : i3 = cntZ (fun j => kindZ (σ.1.2.2 t.toNat) (j : Int) = 0) σ.1.1.toInt.toNat := by rw [hi14_1, show i5 = σ.1.1.toInt by omega]
        refine lv_aload_n hx hb dL_isStationSo_178 rfl (lv_at hl 0 rfl) ?_
        refine lv_iload_n hx hb dL_isStationSo_179 rfl (lv_at hl 1 rfl) ?_
        refine lv_bipush (v := (10 : Int32)) hx hb dL_isStationSo_180 (by decide) ?_
        refine z_cV (As := [.int xt, .int (10 : Int32)]) (rest := []) ⟨hx, hb, hml, hown, hts⟩ (kX4_station l G z σ xt t e_xt (10 : Int32) (10 : Int) kI_10 (by first | assumption | omega)) (cwV 2 hts gL_isStationSo_X4_station rfl rfl rfl hyX4_station ⟨Nat.le_of_ble_eq_true rfl, Nat.le_of_ble_eq_true rfl⟩) hK hF hF.1 rfl rfl hl.1 rfl (Nat.le_of_ble_eq_true rfl) dL_isStationSo_182 ⟨Nat.zero_le _, Nat.zero_le _⟩ (fun z3 e3 => ?_)
        have e3 : z3.toInt = a_station σ t (10 : Int) := e3
        refine lv_istore hx hb dL_isStationSo_185 hl (by decide) rfl (fun ls hl => ?_)
        have hl : lv_has ls 10 [(5, .int z3), (0, .ref z), (1, .int xt), (2, .int z1), (4, .int (0 : Int32)), (3, .int x3)] := hl
        refine lv_iconst (v := (0 : Int32)) hx hb dL_isStationSo_187 (by decide) ?_
        refine lv_istore hx hb dL_isStationSo_188 hl (by decide) rfl (fun ls hl => ?_)
        have hl : lv_has ls 10 [(6, .int (0 : Int32)), (5, .int z3), (0, .ref z), (1, .int xt), (2, .int z1), (4, .int (0 : Int32)), (3, .int x3)] := hl
        have cut190 : ∀ (n190 : Nat), ∀ (x4 : Int32) (i4 : Int) (_ : x4.toInt = i4) (x6 : Int32) (i6 : Int) (_ : x6.toInt = i6), (gapsZ (σ.1.2.2 t.toNat) - i6).toNat < n190 → (0 ≤ i6 ∧ i6 ≤ gapsZ (σ.1.2.2 t.toNat)) → (i4 = widZ σ t i6.toNat) → (0 ≤ i4 ∧ i4 ≤ 120 * i6) → ∀ ls : Array Slot, lv_has ls 10 [(0, .ref z), (1, .int xt), (2, .int z1), (3, .int x3), (5, .int z3), (4, .int x4), (6, .int x6)] → W p l e rmL_isStationSo s m ([.ref z, .int xt] : List Value).toArray below meth c s.heap [] 0 0 (MQ below (zS (fun v => isB v True)) ([.ref z, .int xt] : List Value).toArray s 0 0 zno) (F0 m 190 ls []) := by
          intro n190
          induction n190 with
          | zero =>
            intro x4 i4 hx4 x6 i6 hx6 hmu190 hi190_0 hi190_1 hi190_2 ls hl
            exact absurd hmu190 (Nat.not_lt_zero _)
          | succ n190 ih190 =>
            intro x4 i4 hx4 x6 i6 hx6 hmu190 hi190_0 hi190_1 hi190_2 ls hl
            refine lv_iload hx hb dL_isStationSo_190 (lv_at hl 6 rfl) ?_
            refine lv_iload hx hb dL_isStationSo_192 (lv_at hl 4 rfl) ?_
            refine z_icmp_ge (tgt := 333) hx hb hx6 e3 dL_isStationSo_194 (by decide) (fun c_4 => ?_) (fun c_4 => ?_)
            · have hwd : i4 = widZ σ t (gapsZ (σ.1.2.2 t.toNat)).toNat := by rw [hi190_1, show i6 = gapsZ (σ.1.2.2 t.toNat) by omega]
              refine lv_aload_n hx hb dL_isStationSo_333 rfl (lv_at hl 0 rfl) ?_
              refine lv_iload_n hx hb dL_isStationSo_334 rfl (lv_at hl 1 rfl) ?_
              refine lv_bipush (v := (9 : Int32)) hx hb dL_isStationSo_335 (by decide) ?_
              refine z_cV (As := [.int xt, .int (9 : Int32)]) (rest := []) ⟨hx, hb, hml, hown, hts⟩ (kX4_station l G z σ xt t e_xt (9 : Int32) (9 : Int) kI_9 (by first | assumption | omega)) (cwV 2 hts gL_isStationSo_X4_station rfl rfl rfl hyX4_station ⟨Nat.le_of_ble_eq_true rfl, Nat.le_of_ble_eq_true rfl⟩) hK hF hF.1 rfl rfl hl.1 rfl (Nat.le_of_ble_eq_true rfl) dL_isStationSo_337 ⟨Nat.zero_le _, Nat.zero_le _⟩ (fun z5 e5 => ?_)
              have e5 : z5.toInt = a_station σ t (9 : Int) := e5
              refine lv_iload_n hx hb dL_isStationSo_340 rfl (lv_at hl 3 rfl) ?_
              refine z_icmp_ne (tgt := 380) hx hb e5 hx3 dL_isStationSo_341 (by decide) (fun c_6 => ?_) (fun c_6 => ?_)
              · omega
              · refine lv_iload_n hx hb dL_isStationSo_344 rfl (lv_at hl 3 rfl) ?_
                refine lv_iload hx hb dL_isStationSo_345 (lv_at hl 5 rfl) ?_
                refine z_iadd hx hb hx3 hx4 dL_isStationSo_347 (by omega) (fun z7 e7 => ?_)
                refine lv_iload_n hx hb dL_isStationSo_348 rfl (lv_at hl 2 rfl) ?_
                refine z_icmp_ne (tgt := 380) hx hb e7 e1 dL_isStationSo_349 (by decide) (fun c_8 => ?_) (fun c_8 => ?_)
                · omega
                · refine lv_aload_n hx hb dL_isStationSo_352 rfl (lv_at hl 0 rfl) ?_
                  refine lv_iload_n hx hb dL_isStationSo_353 rfl (lv_at hl 1 rfl) ?_
                  refine lv_iload hx hb dL_isStationSo_354 (lv_at hl 4 rfl) ?_
                  refine lv_iconst (v := (0 : Int32)) hx hb dL_isStationSo_356 (by decide) ?_
                  refine z_cV (As := [.int xt, .int z3, .int (0 : Int32)]) (rest := []) ⟨hx, hb, hml, hown, hts⟩ (kX4_gap l G z σ xt t e_xt z3 (a_station σ t (10 : Int)) e3 (0 : Int32) (0 : Int) kI_0 (by first | assumption | omega)) (cwV 3 hts gL_isStationSo_X4_gap rfl rfl rfl hyX4_gap ⟨Nat.le_of_ble_eq_true rfl, Nat.le_of_ble_eq_true rfl⟩) hK hF hF.1 rfl rfl hl.1 rfl (Nat.le_of_ble_eq_true rfl) dL_isStationSo_357 ⟨Nat.zero_le _, Nat.zero_le _⟩ (fun z9 e9 => ?_)
                  have e9 : z9.toInt = a_gap σ t (a_station σ t (10 : Int)) (0 : Int) := e9
                  refine lv_iconst (v := (-1 : Int32)) hx hb dL_isStationSo_360 (by decide) ?_
                  refine z_icmp_ne (tgt := 380) hx hb e9 kI_m1 dL_isStationSo_361 (by decide) (fun c_10 => ?_) (fun c_10 => ?_)
                  · omega
                  · refine lv_aload_n hx hb dL_isStationSo_364 rfl (lv_at hl 0 rfl) ?_
                    refine lv_iload_n hx hb dL_isStationSo_365 rfl (lv_at hl 1 rfl) ?_
                    refine lv_iload_n hx hb dL_isStationSo_366 rfl (lv_at hl 2 rfl) ?_
                    refine lv_iconst (v := (0 : Int32)) hx hb dL_isStationSo_367 (by decide) ?_
                    refine z_cV (As := [.int xt, .int z1, .int (0 : Int32)]) (rest := []) ⟨hx, hb, hml, hown, hts⟩ (kX4_hour l G z σ xt t e_xt z1 (a_count σ (0 : Int)) e1 (0 : Int32) (0 : Int) kI_0 (by first | assumption | omega)) (cwV 3 hts gL_isStationSo_X4_hour rfl rfl rfl hyX4_hour ⟨Nat.le_of_ble_eq_true rfl, Nat.le_of_ble_eq_true rfl⟩) hK hF hF.1 rfl rfl hl.1 rfl (Nat.le_of_ble_eq_true rfl) dL_isStationSo_368 ⟨Nat.zero_le _, Nat.zero_le _⟩ (fun z11 e11 => ?_)
                    have e11 : z11.toInt = a_hour σ t (a_count σ (0 : Int)) (0 : Int) := e11
                    refine lv_bipush (v := (-5 : Int32)) hx hb dL_isStationSo_371 (by decide) ?_
                    refine z_icmp_ne (tgt := 380) hx hb e11 kI_m5 dL_isStationSo_373 (by decide) (fun c_12 => ?_) (fun c_12 => ?_)
                    · omega
                    · refine lv_iconst (v := (1 : Int32)) hx hb dL_isStationSo_376 (by decide) ?_
                      refine lv_goto (tgt := 381) hx hb dL_isStationSo_377 (by decide) ?_
                      exact z_rb (v := (1 : Int32)) hx hb hr hlocks rfl (isB.t rfl trivial) dL_isStationSo_381
            · have hgp := gp_all hfx ht (k := i6) (by omega)
              have hws := wid_s hfx ht (k := i6) (by omega)
              refine lv_aload_n hx hb dL_isStationSo_197 rfl (lv_at hl 0 rfl) ?_
              refine lv_iload_n hx hb dL_isStationSo_198 rfl (lv_at hl 1 rfl) ?_
              refine lv_iload hx hb dL_isStationSo_199 (lv_at hl 6 rfl) ?_
              refine lv_iconst (v := (0 : Int32)) hx hb dL_isStationSo_201 (by decide) ?_
              refine z_cV (As := [.int xt, .int x6, .int (0 : Int32)]) (rest := []) ⟨hx, hb, hml, hown, hts⟩ (kX4_gap l G z σ xt t e_xt x6 i6 hx6 (0 : Int32) (0 : Int) kI_0 (by first | assumption | omega)) (cwV 3 hts gL_isStationSo_X4_gap rfl rfl rfl hyX4_gap ⟨Nat.le_of_ble_eq_true rfl, Nat.le_of_ble_eq_true rfl⟩) hK hF hF.1 rfl rfl hl.1 rfl (Nat.le_of_ble_eq_true rfl) dL_isStationSo_202 ⟨Nat.zero_le _, Nat.zero_le _⟩ (fun z13 e13 => ?_)
              have e13 : z13.toInt = a_gap σ t i6 (0 : Int) := e13
              refine lv_istore hx hb dL_isStationSo_205 hl (by decide) rfl (fun ls hl => ?_)
              have hl : lv_has ls 10 [(7, .int z13), (0, .ref z), (1, .int xt), (2, .int z1), (3, .int x3), (5, .int z3), (4, .int x4), (6, .int x6)] := hl
              refine lv_aload_n hx hb dL_isStationSo_207 rfl (lv_at hl 1 rfl) ?_
              refine lv_iload_n hx hb dL_isStationSo_208 rfl (lv_at hl 2 rfl) ?_
              refine lv_iload hx hb dL_isStationSo_209 (lv_at hl 7 rfl) ?_
              refine lv_iconst (v := (1 : Int32)) hx hb dL_isStationSo_211 (by decide) ?_
              refine z_cV (As := [.int xt, .int x6, .int (1 : Int32)]) (rest := []) ⟨hx, hb, hml, hown, hts⟩ (kX4_gap l G z σ xt t e_xt x6 i6 hx6 (1 : Int32) (1 : Int) kI_1 (by first | assumption | omega)) (cwV 3 hts gL_isStationSo_X4_gap rfl rfl rfl hyX4_gap ⟨Nat.le_of_ble_eq_true rfl, Nat.le_of_ble_eq_true rfl⟩) hK hF hF.1 rfl rfl hl.1 rfl (Nat.le_of_ble_eq_true rfl) dL_isStationSo_212 ⟨Nat.zero_le _, Nat.zero_le _⟩ (fun z14 e14 => ?_)
              have e14 : z14.toInt = a_gap σ t i6 (1 : Int) := e14
              refine lv_istore hx hb dL_isStationSo_215 hl (by decide) rfl (fun ls hl => ?_)
              have hl : lv_has ls 10 [(8, .int z14), (7, .int z13), (0, .ref z), (1, .int xt), (2, .int z1), (3, .int x3), (5, .int z3), (4, .int x4), (6, .int x6)] := hl
              refine lv_iload hx hb dL_isStationSo_217 (lv_at hl 7 rfl) ?_
              refine lv_iload hx hb dL_isStationSo_219 (lv_at hl 0 rfl) ?_
              refine lv_iload hx hb dL_isStationSo_221 (lv_at hl 1 rfl) ?_
              refine z_isub hx hb e14 e13 dL_isStationSo_223 (by omega) (fun z15 e15 => ?_)
              refine lv_iconst (v := (1 : Int32)) hx hb dL_isStationSo_224 (by decide) ?_
              refine z_iadd hx hb e15 kI_1 dL_isStationSo_225 (by omega) (fun z16 e16 => ?_)
              refine z_iadd hx hb hx4 e16 dL_isStationSo_226 (by omega) (fun z17 e17 => ?_)
              refine lv_istore hx hb dL_isStationSo_227 hl (by decide) rfl (fun ls hl => ?_)
              have hl : lv_has ls 10 [(4, .int z17), (8, .int z14), (7, .int z13), (0, .ref z), (1, .int xt), (2, .int z1), (3, .int x3), (5, .int z3), (6, .int x6)] := hl
              refine lv_iload hx hb dL_isStationSo_229 (lv_at hl 2 rfl) ?_
              refine lv_iload hx hb dL_isStationSo_231 (lv_at hl 1 rfl) ?_
              refine z_icmp_gt (tgt := 279) hx hb e13 e14 dL_isStationSo_233 (by decide) (fun c_18 => ?_) (fun c_18 => ?_)
              · omega
              · refine lv_iload hx hb dL_isStationSo_236 (lv_at hl 2 rfl) ?_
                refine z_if_eq (tgt := 254) hx hb e13 dL_isStationSo_238 (by decide) (fun c_19 => ?_) (fun c_19 => ?_)
                · refine lv_iload hx hb dL_isStationSo_254 (lv_at hl 1 rfl) ?_
                  refine lv_iload_n hx hb dL_isStationSo_256 rfl (lv_at hl 5 rfl) ?_
                  refine lv_iconst (v := (1 : Int32)) hx hb dL_isStationSo_257 (by decide) ?_
                  refine z_isub hx hb e1 kI_1 dL_isStationSo_258 (by omega) (fun z20 e20 => ?_)
                  refine z_icmp_eq (tgt := 275) hx hb e14 e20 dL_isStationSo_259 (by decide) (fun c_21 => ?_) (fun c_21 => ?_)
                  · refine lv_iconst (v := (1 : Int32)) hx hb dL_isStationSo_275 (by decide) ?_
                    refine lv_goto (tgt := 280) hx hb dL_isStationSo_276 (by decide) ?_
                    refine lv_istore hx hb dL_isStationSo_280 hl (by decide) rfl (fun ls hl => ?_)
                    have hl : lv_has ls 10 [(9, .int (1 : Int32)), (4, .int z17), (8, .int z14), (7, .int z13), (0, .ref z), (1, .int xt), (2, .int z1), (3, .int x3), (5, .int z3), (6, .int x6)] := hl
                    refine lv_iload hx hb dL_isStationSo_282 (lv_at hl 0 rfl) ?_
                    refine z_if_eq (tgt := 325) hx hb kI_1 dL_isStationSo_284 (by decide) (fun c_22 => ?_) (fun c_22 => ?_)
                    · omega
                    · refine lv_aload_n hx hb dL_isStationSo_287 rfl (lv_at hl 4 rfl) ?_
                      refine lv_iload_n hx hb dL_isStationSo_288 rfl (lv_at hl 5 rfl) ?_
                      refine lv_iload hx hb dL_isStationSo_289 (lv_at hl 9 rfl) ?_
                      refine lv_iconst (v := (2 : Int32)) hx hb dL_isStationSo_291 (by decide) ?_
                      refine z_cV (As := [.int xt, .int x6, .int (2 : Int32)]) (rest := []) ⟨hx, hb, hml, hown, hts⟩ (kX4_gap l G z σ xt t e_xt x6 i6 hx6 (2 : Int32) (2 : Int) kI_2 (by first | assumption | omega)) (cwV 3 hts gL_isStationSo_X4_gap rfl rfl rfl hyX4_gap ⟨Nat.le_of_ble_eq_true rfl, Nat.le_of_ble_eq_true rfl⟩) hK hF hF.1 rfl rfl hl.1 rfl (Nat.le_of_ble_eq_true rfl) dL_isStationSo_292 ⟨Nat.zero_le _, Nat.zero_le _⟩ (fun z23 e23 => ?_)
                      have e23 : z23.toInt = a_gap σ t i6 (2 : Int) := e23
                      refine lv_iconst (v := (1 : Int32)) hx hb dL_isStationSo_295 (by decide) ?_
                      refine z_icmp_ne (tgt := 303) hx hb e23 kI_1 dL_isStationSo_296 (by decide) (fun c_24 => ?_) (fun c_24 => ?_)
                      · refine lv_iconst (v := (0 : Int32)) hx hb dL_isStationSo_303 (by decide) ?_
                        refine lv_iload hx hb dL_isStationSo_304 (lv_at hl 3 rfl) ?_
                        refine z_if_le (tgt := 321) hx hb e13 dL_isStationSo_306 (by decide) (fun c_25 => ?_) (fun c_25 => ?_)
                        · refine lv_iconst (v := (0 : Int32)) hx hb dL_isStationSo_321 (by decide) ?_
                          refine z_icmp_eq (tgt := 327) hx hb kI_0 kI_0 dL_isStationSo_322 (by decide) (fun c_26 => ?_) (fun c_26 => ?_)
                          · refine z_iinc (k := 9) hx hb dL_isStationSo_327 hl rfl hx6 (show (Int32.ofInt 1).toInt = (1 : Int) from rfl) (by omega) (by decide) (fun z27 e27 ls hl => ?_)
                            have hl : lv_has ls 10 [(6, .int z27), (9, .int (1 : Int32)), (4, .int z17), (8, .int z14), (7, .int z13), (0, .ref z), (1, .int xt), (2, .int z1), (3, .int x3), (5, .int z3)] := hl
                            refine lv_goto (tgt := 190) hx hb dL_isStationSo_330 (by decide) ?_
                            exact ih190 z17 (i4 + (((a_gap σ t i6 (1 : Int)) - (a_gap σ t i6 (0 : Int))) + (1 : Int))) e17 z27 (i6 + (1 : Int)) e27 (by omega) (by omega) (by first | rfl | (rw [hws]; omega)) (by omega) ls (lv_sub hl [5, 6, 7, 8, 9, 2, 0] rfl)
                          · omega
                        · omega
                      · refine lv_iconst (v := (1 : Int32)) hx hb dL_isStationSo_299 (by decide) ?_
                        refine lv_goto (tgt := 304) hx hb dL_isStationSo_300 (by decide) ?_
                        refine lv_iload hx hb dL_isStationSo_304 (lv_at hl 3 rfl) ?_
                        refine z_if_le (tgt := 321) hx hb e13 dL_isStationSo_306 (by decide) (fun c_28 => ?_) (fun c_28 => ?_)
                        · omega
                        · omega
                  · refine lv_aload_n hx hb dL_isStationSo_262 rfl (lv_at hl 3 rfl) ?_
                    refine lv_iload_n hx hb dL_isStationSo_263 rfl (lv_at hl 4 rfl) ?_
                    refine lv_iload hx hb dL_isStationSo_264 (lv_at hl 1 rfl) ?_
                    refine lv_iconst (v := (1 : Int32)) hx hb dL_isStationSo_266 (by decide) ?_
                    refine z_iadd hx hb e14 kI_1 dL_isStationSo_267 (by omega) (fun z29 e29 => ?_)
                    refine lv_iconst (v := (4 : Int32)) hx hb dL_isStationSo_268 (by decide) ?_
                    refine z_cV (As := [.int xt, .int z29, .int (4 : Int32)]) (rest := []) ⟨hx, hb, hml, hown, hts⟩ (kX4_hour l G z σ xt t e_xt z29 ((a_gap σ t i6 (1 : Int)) + (1 : Int)) e29 (4 : Int32) (4 : Int) kI_4 (by first | assumption | omega)) (cwV 3 hts gL_isStationSo_X4_hour rfl rfl rfl hyX4_hour ⟨Nat.le_of_ble_eq_true rfl, Nat.le_of_ble_eq_true rfl⟩) hK hF hF.1 rfl rfl hl.1 rfl (Nat.le_of_ble_eq_true rfl) dL_isStationSo_269 ⟨Nat.zero_le _, Nat.zero_le _⟩ (fun z30 e30 => ?_)
                    have e30 : z30.toInt = a_hour σ t ((a_gap σ t i6 (1 : Int)) + (1 : Int)) (4 : Int) := e30
                    refine z_if_ne (tgt := 279) hx hb e30 dL_isStationSo_272 (by decide) (fun c_31 => ?_) (fun c_31 => ?_)
                    · omega
                    · refine lv_iconst (v := (1 : Int32)) hx hb dL_isStationSo_275 (by decide) ?_
                      refine lv_goto (tgt := 280) hx hb dL_isStationSo_276 (by decide) ?_
                      refine lv_istore hx hb dL_isStationSo_280 hl (by decide) rfl (fun ls hl => ?_)
                      have hl : lv_has ls 10 [(9, .int (1 : Int32)), (4, .int z17), (8, .int z14), (7, .int z13), (0, .ref z), (1, .int xt), (2, .int z1), (3, .int x3), (5, .int z3), (6, .int x6)] := hl
                      refine lv_iload hx hb dL_isStationSo_282 (lv_at hl 0 rfl) ?_
                      refine z_if_eq (tgt := 325) hx hb kI_1 dL_isStationSo_284 (by decide) (fun c_32 => ?_) (fun c_32 => ?_)
                      · omega
                      · refine lv_aload_n hx hb dL_isStationSo_287 rfl (lv_at hl 4 rfl) ?_
                        refine lv_iload_n hx hb dL_isStationSo_288 rfl (lv_at hl 5 rfl) ?_
                        refine lv_iload hx hb dL_isStationSo_289 (lv_at hl 9 rfl) ?_
                        refine lv_iconst (v := (2 : Int32)) hx hb dL_isStationSo_291 (by decide) ?_
                        refine z_cV (As := [.int xt, .int x6, .int (2 : Int32)]) (rest := []) ⟨hx, hb, hml, hown, hts⟩ (kX4_gap l G z σ xt t e_xt x6 i6 hx6 (2 : Int32) (2 : Int) kI_2 (by first | assumption | omega)) (cwV 3 hts gL_isStationSo_X4_gap rfl rfl rfl hyX4_gap ⟨Nat.le_of_ble_eq_true rfl, Nat.le_of_ble_eq_true rfl⟩) hK hF hF.1 rfl rfl hl.1 rfl (Nat.le_of_ble_eq_true rfl) dL_isStationSo_292 ⟨Nat.zero_le _, Nat.zero_le _⟩ (fun z33 e33 => ?_)
                        have e33 : z33.toInt = a_gap σ t i6 (2 : Int) := e33
                        refine lv_iconst (v := (1 : Int32)) hx hb dL_isStationSo_295 (by decide) ?_
                        refine z_icmp_ne (tgt := 303) hx hb e33 kI_1 dL_isStationSo_296 (by decide) (fun c_34 => ?_) (fun c_34 => ?_)
                        · refine lv_iconst (v := (0 : Int32)) hx hb dL_isStationSo_303 (by decide) ?_
                          refine lv_iload hx hb dL_isStationSo_304 (lv_at hl 3 rfl) ?_
                          refine z_if_le (tgt := 321) hx hb e13 dL_isStationSo_306 (by decide) (fun c_35 => ?_) (fun c_35 => ?_)
                          · refine lv_iconst (v := (0 : Int32)) hx hb dL_isStationSo_321 (by decide) ?_
                            refine z_icmp_eq (tgt := 327) hx hb kI_0 kI_0 dL_isStationSo_322 (by decide) (fun c_36 => ?_) (fun c_36 => ?_)
                            · refine z_iinc (k := 9) hx hb dL_isStationSo_327 hl rfl hx6 (show (Int32.ofInt 1).toInt = (1 : Int) from rfl) (by omega) (by decide) (fun z37 e37 ls hl => ?_)
                              have hl : lv_has ls 10 [(6, .int z37), (9, .int (1 : Int32)), (4, .int z17), (8, .int z14), (7, .int z13), (0, .ref z), (1, .int xt), (2, .int z1), (3, .int x3), (5, .int z3)] := hl
                              refine lv_goto (tgt := 190) hx hb dL_isStationSo_330 (by decide) ?_
                              exact ih190 z17 (i4 + (((a_gap σ t i6 (1 : Int)) - (a_gap σ t i6 (0 : Int))) + (1 : Int))) e17 z37 (i6 + (1 : Int)) e37 (by omega) (by omega) (by first | rfl | (rw [hws]; omega)) (by omega) ls (lv_sub hl [5, 6, 7, 8, 9, 2, 0] rfl)
                            · omega
                          · omega
                        · refine lv_iconst (v := (1 : Int32)) hx hb dL_isStationSo_299 (by decide) ?_
                          refine lv_goto (tgt := 304) hx hb dL_isStationSo_300 (by decide) ?_
                          refine lv_iload hx hb dL_isStationSo_304 (lv_at hl 3 rfl) ?_
                          refine z_if_le (tgt := 321) hx hb e13 dL_isStationSo_306 (by decide) (fun c_38 => ?_) (fun c_38 => ?_)
                          · omega
                          · omega
                · refine lv_aload_n hx hb dL_isStationSo_241 rfl (lv_at hl 3 rfl) ?_
                  refine lv_iload_n hx hb dL_isStationSo_242 rfl (lv_at hl 4 rfl) ?_
                  refine lv_iload hx hb dL_isStationSo_243 (lv_at hl 2 rfl) ?_
                  refine lv_iconst (v := (1 : Int32)) hx hb dL_isStationSo_245 (by decide) ?_
                  refine z_isub hx hb e13 kI_1 dL_isStationSo_246 (by omega) (fun z39 e39 => ?_)
                  refine lv_iconst (v := (4 : Int32)) hx hb dL_isStationSo_247 (by decide) ?_
                  refine z_cV (As := [.int xt, .int z39, .int (4 : Int32)]) (rest := []) ⟨hx, hb, hml, hown, hts⟩ (kX4_hour l G z σ xt t e_xt z39 ((a_gap σ t i6 (0 : Int)) - (1 : Int)) e39 (4 : Int32) (4 : Int) kI_4 (by first | assumption | omega)) (cwV 3 hts gL_isStationSo_X4_hour rfl rfl rfl hyX4_hour ⟨Nat.le_of_ble_eq_true rfl, Nat.le_of_ble_eq_true rfl⟩) hK hF hF.1 rfl rfl hl.1 rfl (Nat.le_of_ble_eq_true rfl) dL_isStationSo_248 ⟨Nat.zero_le _, Nat.zero_le _⟩ (fun z40 e40 => ?_)
                  have e40 : z40.toInt = a_hour σ t ((a_gap σ t i6 (0 : Int)) - (1 : Int)) (4 : Int) := e40
                  refine z_if_ne (tgt := 279) hx hb e40 dL_isStationSo_251 (by decide) (fun c_41 => ?_) (fun c_41 => ?_)
                  · omega
                  · refine lv_iload hx hb dL_isStationSo_254 (lv_at hl 1 rfl) ?_
                    refine lv_iload_n hx hb dL_isStationSo_256 rfl (lv_at hl 5 rfl) ?_
                    refine lv_iconst (v := (1 : Int32)) hx hb dL_isStationSo_257 (by decide) ?_
                    refine z_isub hx hb e1 kI_1 dL_isStationSo_258 (by omega) (fun z42 e42 => ?_)
                    refine z_icmp_eq (tgt := 275) hx hb e14 e42 dL_isStationSo_259 (by decide) (fun c_43 => ?_) (fun c_43 => ?_)
                    · refine lv_iconst (v := (1 : Int32)) hx hb dL_isStationSo_275 (by decide) ?_
                      refine lv_goto (tgt := 280) hx hb dL_isStationSo_276 (by decide) ?_
                      refine lv_istore hx hb dL_isStationSo_280 hl (by decide) rfl (fun ls hl => ?_)
                      have hl : lv_has ls 10 [(9, .int (1 : Int32)), (4, .int z17), (8, .int z14), (7, .int z13), (0, .ref z), (1, .int xt), (2, .int z1), (3, .int x3), (5, .int z3), (6, .int x6)] := hl
                      refine lv_iload hx hb dL_isStationSo_282 (lv_at hl 0 rfl) ?_
                      refine z_if_eq (tgt := 325) hx hb kI_1 dL_isStationSo_284 (by decide) (fun c_44 => ?_) (fun c_44 => ?_)
                      · omega
                      · refine lv_aload_n hx hb dL_isStationSo_287 rfl (lv_at hl 4 rfl) ?_
                        refine lv_iload_n hx hb dL_isStationSo_288 rfl (lv_at hl 5 rfl) ?_
                        refine lv_iload hx hb dL_isStationSo_289 (lv_at hl 9 rfl) ?_
                        refine lv_iconst (v := (2 : Int32)) hx hb dL_isStationSo_291 (by decide) ?_
                        refine z_cV (As := [.int xt, .int x6, .int (2 : Int32)]) (rest := []) ⟨hx, hb, hml, hown, hts⟩ (kX4_gap l G z σ xt t e_xt x6 i6 hx6 (2 : Int32) (2 : Int) kI_2 (by first | assumption | omega)) (cwV 3 hts gL_isStationSo_X4_gap rfl rfl rfl hyX4_gap ⟨Nat.le_of_ble_eq_true rfl, Nat.le_of_ble_eq_true rfl⟩) hK hF hF.1 rfl rfl hl.1 rfl (Nat.le_of_ble_eq_true rfl) dL_isStationSo_292 ⟨Nat.zero_le _, Nat.zero_le _⟩ (fun z45 e45 => ?_)
                        have e45 : z45.toInt = a_gap σ t i6 (2 : Int) := e45
                        refine lv_iconst (v := (1 : Int32)) hx hb dL_isStationSo_295 (by decide) ?_
                        refine z_icmp_ne (tgt := 303) hx hb e45 kI_1 dL_isStationSo_296 (by decide) (fun c_46 => ?_) (fun c_46 => ?_)
                        · refine lv_iconst (v := (0 : Int32)) hx hb dL_isStationSo_303 (by decide) ?_
                          refine lv_iload hx hb dL_isStationSo_304 (lv_at hl 3 rfl) ?_
                          refine z_if_le (tgt := 321) hx hb e13 dL_isStationSo_306 (by decide) (fun c_47 => ?_) (fun c_47 => ?_)
                          · refine lv_iconst (v := (0 : Int32)) hx hb dL_isStationSo_321 (by decide) ?_
                            refine z_icmp_eq (tgt := 327) hx hb kI_0 kI_0 dL_isStationSo_322 (by decide) (fun c_48 => ?_) (fun c_48 => ?_)
                            · refine z_iinc (k := 9) hx hb dL_isStationSo_327 hl rfl hx6 (show (Int32.ofInt 1).toInt = (1 : Int) from rfl) (by omega) (by decide) (fun z49 e49 ls hl => ?_)
                              have hl : lv_has ls 10 [(6, .int z49), (9, .int (1 : Int32)), (4, .int z17), (8, .int z14), (7, .int z13), (0, .ref z), (1, .int xt), (2, .int z1), (3, .int x3), (5, .int z3)] := hl
                              refine lv_goto (tgt := 190) hx hb dL_isStationSo_330 (by decide) ?_
                              exact ih190 z17 (i4 + (((a_gap σ t i6 (1 : Int)) - (a_gap σ t i6 (0 : Int))) + (1 : Int))) e17 z49 (i6 + (1 : Int)) e49 (by omega) (by omega) (by first | rfl | (rw [hws]; omega)) (by omega) ls (lv_sub hl [5, 6, 7, 8, 9, 2, 0] rfl)
                            · omega
                          · refine lv_iload hx hb dL_isStationSo_309 (lv_at hl 2 rfl) ?_
                            refine lv_iload_n hx hb dL_isStationSo_311 rfl (lv_at hl 6 rfl) ?_
                            refine lv_iconst (v := (1 : Int32)) hx hb dL_isStationSo_312 (by decide) ?_
                            refine z_isub hx hb e1 kI_1 dL_isStationSo_313 (by omega) (fun z50 e50 => ?_)
                            refine z_icmp_ge (tgt := 321) hx hb e14 e50 dL_isStationSo_314 (by decide) (fun c_51 => ?_) (fun c_51 => ?_)
                            · refine lv_iconst (v := (0 : Int32)) hx hb dL_isStationSo_321 (by decide) ?_
                              refine z_icmp_eq (tgt := 327) hx hb kI_0 kI_0 dL_isStationSo_322 (by decide) (fun c_52 => ?_) (fun c_52 => ?_)
                              · refine z_iinc (k := 9) hx hb dL_isStationSo_327 hl rfl hx6 (show (Int32.ofInt 1).toInt = (1 : Int) from rfl) (by omega) (by decide) (fun z53 e53 ls hl => ?_)
                                have hl : lv_has ls 10 [(6, .int z53), (9, .int (1 : Int32)), (4, .int z17), (8, .int z14), (7, .int z13), (0, .ref z), (1, .int xt), (2, .int z1), (3, .int x3), (5, .int z3)] := hl
                                refine lv_goto (tgt := 190) hx hb dL_isStationSo_330 (by decide) ?_
                                exact ih190 z17 (i4 + (((a_gap σ t i6 (1 : Int)) - (a_gap σ t i6 (0 : Int))) + (1 : Int))) e17 z53 (i6 + (1 : Int)) e53 (by omega) (by omega) (by first | rfl | (rw [hws]; omega)) (by omega) ls (lv_sub hl [5, 6, 7, 8, 9, 2, 0] rfl)
                              · omega
                            · omega
                        · refine lv_iconst (v := (1 : Int32)) hx hb dL_isStationSo_299 (by decide) ?_
                          refine lv_goto (tgt := 304) hx hb dL_isStationSo_300 (by decide) ?_
                          refine lv_iload hx hb dL_isStationSo_304 (lv_at hl 3 rfl) ?_
                          refine z_if_le (tgt := 321) hx hb e13 dL_isStationSo_306 (by decide) (fun c_54 => ?_) (fun c_54 => ?_)
                          · omega
                          · refine lv_iload hx hb dL_isStationSo_309 (lv_at hl 2 rfl) ?_
                            refine lv_iload_n hx hb dL_isStationSo_311 rfl (lv_at hl 6 rfl) ?_
                            refine lv_iconst (v := (1 : Int32)) hx hb dL_isStationSo_312 (by decide) ?_
                            refine z_isub hx hb e1 kI_1 dL_isStationSo_313 (by omega) (fun z55 e55 => ?_)
                            refine z_icmp_ge (tgt := 321) hx hb e14 e55 dL_isStationSo_314 (by decide) (fun c_56 => ?_) (fun c_56 => ?_)
                            · omega
                            · refine lv_iconst (v := (1 : Int32)) hx hb dL_isStationSo_317 (by decide) ?_
                              refine lv_goto (tgt := 322) hx hb dL_isStationSo_318 (by decide) ?_
                              refine z_icmp_eq (tgt := 327) hx hb kI_1 kI_1 dL_isStationSo_322 (by decide) (fun c_57 => ?_) (fun c_57 => ?_)
                              · refine z_iinc (k := 9) hx hb dL_isStationSo_327 hl rfl hx6 (show (Int32.ofInt 1).toInt = (1 : Int) from rfl) (by omega) (by decide) (fun z58 e58 ls hl => ?_)
                                have hl : lv_has ls 10 [(6, .int z58), (9, .int (1 : Int32)), (4, .int z17), (8, .int z14), (7, .int z13), (0, .ref z), (1, .int xt), (2, .int z1), (3, .int x3), (5, .int z3)] := hl
                                refine lv_goto (tgt := 190) hx hb dL_isStationSo_330 (by decide) ?_
                                exact ih190 z17 (i4 + (((a_gap σ t i6 (1 : Int)) - (a_gap σ t i6 (0 : Int))) + (1 : Int))) e17 z58 (i6 + (1 : Int)) e58 (by omega) (by omega) (by first | rfl | (rw [hws]; omega)) (by omega) ls (lv_sub hl [5, 6, 7, 8, 9, 2, 0] rfl)
                              · omega
                    · refine lv_aload_n hx hb dL_isStationSo_262 rfl (lv_at hl 3 rfl) ?_
                      refine lv_iload_n hx hb dL_isStationSo_263 rfl (lv_at hl 4 rfl) ?_
                      refine lv_iload hx hb dL_isStationSo_264 (lv_at hl 1 rfl) ?_
                      refine lv_iconst (v := (1 : Int32)) hx hb dL_isStationSo_266 (by decide) ?_
                      refine z_iadd hx hb e14 kI_1 dL_isStationSo_267 (by omega) (fun z59 e59 => ?_)
                      refine lv_iconst (v := (4 : Int32)) hx hb dL_isStationSo_268 (by decide) ?_
                      refine z_cV (As := [.int xt, .int z59, .int (4 : Int32)]) (rest := []) ⟨hx, hb, hml, hown, hts⟩ (kX4_hour l G z σ xt t e_xt z59 ((a_gap σ t i6 (1 : Int)) + (1 : Int)) e59 (4 : Int32) (4 : Int) kI_4 (by first | assumption | omega)) (cwV 3 hts gL_isStationSo_X4_hour rfl rfl rfl hyX4_hour ⟨Nat.le_of_ble_eq_true rfl, Nat.le_of_ble_eq_true rfl⟩) hK hF hF.1 rfl rfl hl.1 rfl (Nat.le_of_ble_eq_true rfl) dL_isStationSo_269 ⟨Nat.zero_le _, Nat.zero_le _⟩ (fun z60 e60 => ?_)
                      have e60 : z60.toInt = a_hour σ t ((a_gap σ t i6 (1 : Int)) + (1 : Int)) (4 : Int) := e60
                      refine z_if_ne (tgt := 279) hx hb e60 dL_isStationSo_272 (by decide) (fun c_61 => ?_) (fun c_61 => ?_)
                      · omega
                      · refine lv_iconst (v := (1 : Int32)) hx hb dL_isStationSo_275 (by decide) ?_
                        refine lv_goto (tgt := 280) hx hb dL_isStationSo_276 (by decide) ?_
                        refine lv_istore hx hb dL_isStationSo_280 hl (by decide) rfl (fun ls hl => ?_)
                        have hl : lv_has ls 10 [(9, .int (1 : Int32)), (4, .int z17), (8, .int z14), (7, .int z13), (0, .ref z), (1, .int xt), (2, .int z1), (3, .int x3), (5, .int z3), (6, .int x6)] := hl
                        refine lv_iload hx hb dL_isStationSo_282 (lv_at hl 0 rfl) ?_
                        refine z_if_eq (tgt := 325) hx hb kI_1 dL_isStationSo_284 (by decide) (fun c_62 => ?_) (fun c_62 => ?_)
                        · omega
                        · refine lv_aload_n hx hb dL_isStationSo_287 rfl (lv_at hl 4 rfl) ?_
                          refine lv_iload_n hx hb dL_isStationSo_288 rfl (lv_at hl 5 rfl) ?_
                          refine lv_iload hx hb dL_isStationSo_289 (lv_at hl 9 rfl) ?_
                          refine lv_iconst (v := (2 : Int32)) hx hb dL_isStationSo_291 (by decide) ?_
                          refine z_cV (As := [.int xt, .int x6, .int (2 : Int32)]) (rest := []) ⟨hx, hb, hml, hown, hts⟩ (kX4_gap l G z σ xt t e_xt x6 i6 hx6 (2 : Int32) (2 : Int) kI_2 (by first | assumption | omega)) (cwV 3 hts gL_isStationSo_X4_gap rfl rfl rfl hyX4_gap ⟨Nat.le_of_ble_eq_true rfl, Nat.le_of_ble_eq_true rfl⟩) hK hF hF.1 rfl rfl hl.1 rfl (Nat.le_of_ble_eq_true rfl) dL_isStationSo_292 ⟨Nat.zero_le _, Nat.zero_le _⟩ (fun z63 e63 => ?_)
                          have e63 : z63.toInt = a_gap σ t i6 (2 : Int) := e63
                          refine lv_iconst (v := (1 : Int32)) hx hb dL_isStationSo_295 (by decide) ?_
                          refine z_icmp_ne (tgt := 303) hx hb e63 kI_1 dL_isStationSo_296 (by decide) (fun c_64 => ?_) (fun c_64 => ?_)
                          · refine lv_iconst (v := (0 : Int32)) hx hb dL_isStationSo_303 (by decide) ?_
                            refine lv_iload hx hb dL_isStationSo_304 (lv_at hl 3 rfl) ?_
                            refine z_if_le (tgt := 321) hx hb e13 dL_isStationSo_306 (by decide) (fun c_65 => ?_) (fun c_65 => ?_)
                            · refine lv_iconst (v := (0 : Int32)) hx hb dL_isStationSo_321 (by decide) ?_
                              refine z_icmp_eq (tgt := 327) hx hb kI_0 kI_0 dL_isStationSo_322 (by decide) (fun c_66 => ?_) (fun c_66 => ?_)
                              · refine z_iinc (k := 9) hx hb dL_isStationSo_327 hl rfl hx6 (show (Int32.ofInt 1).toInt = (1 : Int) from rfl) (by omega) (by decide) (fun z67 e67 ls hl => ?_)
                                have hl : lv_has ls 10 [(6, .int z67), (9, .int (1 : Int32)), (4, .int z17), (8, .int z14), (7, .int z13), (0, .ref z), (1, .int xt), (2, .int z1), (3, .int x3), (5, .int z3)] := hl
                                refine lv_goto (tgt := 190) hx hb dL_isStationSo_330 (by decide) ?_
                                exact ih190 z17 (i4 + (((a_gap σ t i6 (1 : Int)) - (a_gap σ t i6 (0 : Int))) + (1 : Int))) e17 z67 (i6 + (1 : Int)) e67 (by omega) (by omega) (by first | rfl | (rw [hws]; omega)) (by omega) ls (lv_sub hl [5, 6, 7, 8, 9, 2, 0] rfl)
                              · omega
                            · refine lv_iload hx hb dL_isStationSo_309 (lv_at hl 2 rfl) ?_
                              refine lv_iload_n hx hb dL_isStationSo_311 rfl (lv_at hl 6 rfl) ?_
                              refine lv_iconst (v := (1 : Int32)) hx hb dL_isStationSo_312 (by decide) ?_
                              refine z_isub hx hb e1 kI_1 dL_isStationSo_313 (by omega) (fun z68 e68 => ?_)
                              refine z_icmp_ge (tgt := 321) hx hb e14 e68 dL_isStationSo_314 (by decide) (fun c_69 => ?_) (fun c_69 => ?_)
                              · refine lv_iconst (v := (0 : Int32)) hx hb dL_isStationSo_321 (by decide) ?_
                                refine z_icmp_eq (tgt := 327) hx hb kI_0 kI_0 dL_isStationSo_322 (by decide) (fun c_70 => ?_) (fun c_70 => ?_)
                                · refine z_iinc (k := 9) hx hb dL_isStationSo_327 hl rfl hx6 (show (Int32.ofInt 1).toInt = (1 : Int) from rfl) (by omega) (by decide) (fun z71 e71 ls hl => ?_)
                                  have hl : lv_has ls 10 [(6, .int z71), (9, .int (1 : Int32)), (4, .int z17), (8, .int z14), (7, .int z13), (0, .ref z), (1, .int xt), (2, .int z1), (3, .int x3), (5, .int z3)] := hl
                                  refine lv_goto (tgt := 190) hx hb dL_isStationSo_330 (by decide) ?_
                                  exact ih190 z17 (i4 + (((a_gap σ t i6 (1 : Int)) - (a_gap σ t i6 (0 : Int))) + (1 : Int))) e17 z71 (i6 + (1 : Int)) e71 (by omega) (by omega) (by first | rfl | (rw [hws]; omega)) (by omega) ls (lv_sub hl [5, 6, 7, 8, 9, 2, 0] rfl)
                                · omega
                              · omega
                          · refine lv_iconst (v := (1 : Int32)) hx hb dL_isStationSo_299 (by decide) ?_
                            refine lv_goto (tgt := 304) hx hb dL_isStationSo_300 (by decide) ?_
                            refine lv_iload hx hb dL_isStationSo_304 (lv_at hl 3 rfl) ?_
                            refine z_if_le (tgt := 321) hx hb e13 dL_isStationSo_306 (by decide) (fun c_72 => ?_) (fun c_72 => ?_)
                            · omega
                            · refine lv_iload hx hb dL_isStationSo_309 (lv_at hl 2 rfl) ?_
                              refine lv_iload_n hx hb dL_isStationSo_311 rfl (lv_at hl 6 rfl) ?_
                              refine lv_iconst (v := (1 : Int32)) hx hb dL_isStationSo_312 (by decide) ?_
                              refine z_isub hx hb e1 kI_1 dL_isStationSo_313 (by omega) (fun z73 e73 => ?_)
                              refine z_icmp_ge (tgt := 321) hx hb e14 e73 dL_isStationSo_314 (by decide) (fun c_74 => ?_) (fun c_74 => ?_)
                              · omega
                              · refine lv_iconst (v := (1 : Int32)) hx hb dL_isStationSo_317 (by decide) ?_
                                refine lv_goto (tgt := 322) hx hb dL_isStationSo_318 (by decide) ?_
                                refine z_icmp_eq (tgt := 327) hx hb kI_1 kI_1 dL_isStationSo_322 (by decide) (fun c_75 => ?_) (fun c_75 => ?_)
                                · refine z_iinc (k := 9) hx hb dL_isStationSo_327 hl rfl hx6 (show (Int32.ofInt 1).toInt = (1 : Int) from rfl) (by omega) (by decide) (fun z76 e76 ls hl => ?_)
                                  have hl : lv_has ls 10 [(6, .int z76), (9, .int (1 : Int32)), (4, .int z17), (8, .int z14), (7, .int z13), (0, .ref z), (1, .int xt), (2, .int z1), (3, .int x3), (5, .int z3)] := hl
                                  refine lv_goto (tgt := 190) hx hb dL_isStationSo_330 (by decide) ?_
                                  exact ih190 z17 (i4 + (((a_gap σ t i6 (1 : Int)) - (a_gap σ t i6 (0 : Int))) + (1 : Int))) e17 z76 (i6 + (1 : Int)) e76 (by omega) (by omega) (by first | rfl | (rw [hws]; omega)) (by omega) ls (lv_sub hl [5, 6, 7, 8, 9, 2, 0] rfl)
                                · omega
        exact cut190 (((gapsZ (σ.1.2.2 t.toNat) - (0 : Int)).toNat) + 1) (0 : Int32) (0 : Int) kI_0 (0 : Int32) (0 : Int) kI_0 (Nat.lt_succ_self _) (by omega) (by first | rfl | (rw [hws]; omega)) (by omega) ls (lv_sub hl [2, 3, 4, 6, 1, 5, 0] rfl)
      · have hall := hr_all hfx ht (h := i5) (by omega)
        refine lv_aload_n hx hb dL_isStationSo_20 rfl (lv_at hl 0 rfl) ?_
        refine lv_iload_n hx hb dL_isStationSo_21 rfl (lv_at hl 1 rfl) ?_
        refine lv_iload hx hb dL_isStationSo_22 (lv_at hl 5 rfl) ?_
        refine lv_iconst (v := (0 : Int32)) hx hb dL_isStationSo_24 (by decide) ?_
        refine z_cV (As := [.int xt, .int x5, .int (0 : Int32)]) (rest := []) ⟨hx, hb, hml, hown, hts⟩ (kX4_hour l G z σ xt t e_xt x5 i5 hx5 (0 : Int32) (0 : Int) kI_0 (by first | assumption | omega)) (cwV 3 hts gL_isStationSo_X4_hour rfl rfl rfl hyX4_hour ⟨Nat.le_of_ble_eq_true rfl, Nat.le_of_ble_eq_true rfl⟩) hK hF hF.1 rfl rfl hl.1 rfl (Nat.le_of_ble_eq_true rfl) dL_isStationSo_25 ⟨Nat.zero_le _, Nat.zero_le _⟩ (fun z77 e77 => ?_)
        have e77 : z77.toInt = a_hour σ t i5 (0 : Int) := e77
        refine lv_istore hx hb dL_isStationSo_28 hl (by decide) rfl (fun ls hl => ?_)
        have hl : lv_has ls 10 [(6, .int z77), (0, .ref z), (1, .int xt), (2, .int z1), (4, .int (0 : Int32)), (3, .int x3), (5, .int x5)] := hl
        refine lv_aload_n hx hb dL_isStationSo_30 rfl (lv_at hl 1 rfl) ?_
        refine lv_iload_n hx hb dL_isStationSo_31 rfl (lv_at hl 2 rfl) ?_
        refine lv_iload hx hb dL_isStationSo_32 (lv_at hl 6 rfl) ?_
        refine lv_iconst (v := (4 : Int32)) hx hb dL_isStationSo_34 (by decide) ?_
        refine z_cV (As := [.int xt, .int x5, .int (4 : Int32)]) (rest := []) ⟨hx, hb, hml, hown, hts⟩ (kX4_hour l G z σ xt t e_xt x5 i5 hx5 (4 : Int32) (4 : Int) kI_4 (by first | assumption | omega)) (cwV 3 hts gL_isStationSo_X4_hour rfl rfl rfl hyX4_hour ⟨Nat.le_of_ble_eq_true rfl, Nat.le_of_ble_eq_true rfl⟩) hK hF hF.1 rfl rfl hl.1 rfl (Nat.le_of_ble_eq_true rfl) dL_isStationSo_35 ⟨Nat.zero_le _, Nat.zero_le _⟩ (fun z78 e78 => ?_)
        have e78 : z78.toInt = a_hour σ t i5 (4 : Int) := e78
        refine lv_istore hx hb dL_isStationSo_38 hl (by decide) rfl (fun ls hl => ?_)
        have hl : lv_has ls 10 [(7, .int z78), (6, .int z77), (0, .ref z), (1, .int xt), (2, .int z1), (4, .int (0 : Int32)), (3, .int x3), (5, .int x5)] := hl
        refine lv_iload_n hx hb dL_isStationSo_40 rfl (lv_at hl 6 rfl) ?_
        refine lv_iload hx hb dL_isStationSo_41 (lv_at hl 1 rfl) ?_
        refine lv_bipush (v := (-5 : Int32)) hx hb dL_isStationSo_43 (by decide) ?_
        refine z_icmp_ne (tgt := 52) hx hb e77 kI_m5 dL_isStationSo_45 (by decide) (fun c_79 => ?_) (fun c_79 => ?_)
        · have hcc := kc_t (σ := σ) (t := t) (i := i5) (by omega) (by omega)
          refine lv_iconst (v := (1 : Int32)) hx hb dL_isStationSo_52 (by decide) ?_
          refine z_iadd hx hb hx3 kI_1 dL_isStationSo_53 (by omega) (fun z80 e80 => ?_)
          refine lv_istore_n hx hb dL_isStationSo_54 rfl hl (by decide) rfl (fun ls hl => ?_)
          have hl : lv_has ls 10 [(3, .int z80), (7, .int z78), (6, .int z77), (0, .ref z), (1, .int xt), (2, .int z1), (4, .int (0 : Int32)), (5, .int x5)] := hl
          refine lv_iload hx hb dL_isStationSo_55 (lv_at hl 2 rfl) ?_
          refine lv_bipush (v := (-5 : Int32)) hx hb dL_isStationSo_57 (by decide) ?_
          refine z_icmp_ne (tgt := 66) hx hb e77 kI_m5 dL_isStationSo_59 (by decide) (fun c_81 => ?_) (fun c_81 => ?_)
          · refine lv_iconst (v := (0 : Int32)) hx hb dL_isStationSo_66 (by decide) ?_
            refine lv_iload hx hb dL_isStationSo_67 (lv_at hl 1 rfl) ?_
            refine z_if_le (tgt := 76) hx hb e78 dL_isStationSo_69 (by decide) (fun c_82 => ?_) (fun c_82 => ?_)
            · refine lv_iconst (v := (0 : Int32)) hx hb dL_isStationSo_76 (by decide) ?_
              refine z_icmp_ne (tgt := 112) hx hb kI_0 kI_0 dL_isStationSo_77 (by decide) (fun c_83 => ?_) (fun c_83 => ?_)
              · omega
              · refine lv_iload hx hb dL_isStationSo_80 (lv_at hl 1 rfl) ?_
                refine lv_iconst (v := (2 : Int32)) hx hb dL_isStationSo_82 (by decide) ?_
                refine z_icmp_ne (tgt := 90) hx hb e78 kI_2 dL_isStationSo_83 (by decide) (fun c_84 => ?_) (fun c_84 => ?_)
                · refine lv_iconst (v := (0 : Int32)) hx hb dL_isStationSo_90 (by decide) ?_
                  refine lv_aload_n hx hb dL_isStationSo_91 rfl (lv_at hl 3 rfl) ?_
                  refine lv_iload_n hx hb dL_isStationSo_92 rfl (lv_at hl 4 rfl) ?_
                  refine lv_iload hx hb dL_isStationSo_93 (lv_at hl 7 rfl) ?_
                  refine lv_iconst (v := (2 : Int32)) hx hb dL_isStationSo_95 (by decide) ?_
                  refine z_cV (As := [.int xt, .int x5, .int (2 : Int32)]) (rest := [.int (0 : Int32)]) ⟨hx, hb, hml, hown, hts⟩ (kX4_hour l G z σ xt t e_xt x5 i5 hx5 (2 : Int32) (2 : Int) kI_2 (by first | assumption | omega)) (cwV 3 hts gL_isStationSo_X4_hour rfl rfl rfl hyX4_hour ⟨Nat.le_of_ble_eq_true rfl, Nat.le_of_ble_eq_true rfl⟩) hK hF hF.1 rfl rfl hl.1 rfl (Nat.le_of_ble_eq_true rfl) dL_isStationSo_96 ⟨Nat.zero_le _, Nat.zero_le _⟩ (fun z85 e85 => ?_)
                  have e85 : z85.toInt = a_hour σ t i5 (2 : Int) := e85
                  refine lv_bipush (v := (-5 : Int32)) hx hb dL_isStationSo_99 (by decide) ?_
                  refine z_icmp_eq (tgt := 108) hx hb e85 kI_m5 dL_isStationSo_101 (by decide) (fun c_86 => ?_) (fun c_86 => ?_)
                  · refine lv_iconst (v := (0 : Int32)) hx hb dL_isStationSo_108 (by decide) ?_
                    refine z_icmp_eq (tgt := 114) hx hb kI_0 kI_0 dL_isStationSo_109 (by decide) (fun c_87 => ?_) (fun c_87 => ?_)
                    · refine lv_iload hx hb dL_isStationSo_114 (lv_at hl 2 rfl) ?_
                      refine z_if_lt (tgt := 172) hx hb e77 dL_isStationSo_116 (by decide) (fun c_88 => ?_) (fun c_88 => ?_)
                      · omega
                      · refine lv_aload_n hx hb dL_isStationSo_119 rfl (lv_at hl 3 rfl) ?_
                        refine lv_iload_n hx hb dL_isStationSo_120 rfl (lv_at hl 4 rfl) ?_
                        refine lv_iload hx hb dL_isStationSo_121 (lv_at hl 7 rfl) ?_
                        refine lv_iconst (v := (1 : Int32)) hx hb dL_isStationSo_123 (by decide) ?_
                        refine z_cV (As := [.int xt, .int x5, .int (1 : Int32)]) (rest := []) ⟨hx, hb, hml, hown, hts⟩ (kX4_hour l G z σ xt t e_xt x5 i5 hx5 (1 : Int32) (1 : Int) kI_1 (by first | assumption | omega)) (cwV 3 hts gL_isStationSo_X4_hour rfl rfl rfl hyX4_hour ⟨Nat.le_of_ble_eq_true rfl, Nat.le_of_ble_eq_true rfl⟩) hK hF hF.1 rfl rfl hl.1 rfl (Nat.le_of_ble_eq_true rfl) dL_isStationSo_124 ⟨Nat.zero_le _, Nat.zero_le _⟩ (fun z89 e89 => ?_)
                        have e89 : z89.toInt = a_hour σ t i5 (1 : Int) := e89
                        refine lv_iload hx hb dL_isStationSo_127 (lv_at hl 2 rfl) ?_
                        refine lv_aload_n hx hb dL_isStationSo_129 rfl (lv_at hl 3 rfl) ?_
                        refine lv_iload_n hx hb dL_isStationSo_130 rfl (lv_at hl 4 rfl) ?_
                        refine lv_iload hx hb dL_isStationSo_131 (lv_at hl 7 rfl) ?_
                        refine lv_iconst (v := (3 : Int32)) hx hb dL_isStationSo_133 (by decide) ?_
                        refine z_cV (As := [.int xt, .int x5, .int (3 : Int32)]) (rest := [.int z77, .int z89]) ⟨hx, hb, hml, hown, hts⟩ (kX4_hour l G z σ xt t e_xt x5 i5 hx5 (3 : Int32) (3 : Int) kI_3 (by first | assumption | omega)) (cwV 3 hts gL_isStationSo_X4_hour rfl rfl rfl hyX4_hour ⟨Nat.le_of_ble_eq_true rfl, Nat.le_of_ble_eq_true rfl⟩) hK hF hF.1 rfl rfl hl.1 rfl (Nat.le_of_ble_eq_true rfl) dL_isStationSo_134 ⟨Nat.zero_le _, Nat.zero_le _⟩ (fun z90 e90 => ?_)
                        have e90 : z90.toInt = a_hour σ t i5 (3 : Int) := e90
                        refine z_isub hx hb e77 e90 dL_isStationSo_137 (by omega) (fun z91 e91 => ?_)
                        refine z_icmp_ne (tgt := 170) hx hb e89 e91 dL_isStationSo_138 (by decide) (fun c_92 => ?_) (fun c_92 => ?_)
                        · omega
                        · refine lv_aload_n hx hb dL_isStationSo_141 rfl (lv_at hl 3 rfl) ?_
                          refine lv_iload_n hx hb dL_isStationSo_142 rfl (lv_at hl 4 rfl) ?_
                          refine lv_iload hx hb dL_isStationSo_143 (lv_at hl 7 rfl) ?_
                          refine lv_iconst (v := (3 : Int32)) hx hb dL_isStationSo_145 (by decide) ?_
                          refine z_cV (As := [.int xt, .int x5, .int (3 : Int32)]) (rest := []) ⟨hx, hb, hml, hown, hts⟩ (kX4_hour l G z σ xt t e_xt x5 i5 hx5 (3 : Int32) (3 : Int) kI_3 (by first | assumption | omega)) (cwV 3 hts gL_isStationSo_X4_hour rfl rfl rfl hyX4_hour ⟨Nat.le_of_ble_eq_true rfl, Nat.le_of_ble_eq_true rfl⟩) hK hF hF.1 rfl rfl hl.1 rfl (Nat.le_of_ble_eq_true rfl) dL_isStationSo_146 ⟨Nat.zero_le _, Nat.zero_le _⟩ (fun z93 e93 => ?_)
                          have e93 : z93.toInt = a_hour σ t i5 (3 : Int) := e93
                          refine z_if_lt (tgt := 170) hx hb e93 dL_isStationSo_149 (by decide) (fun c_94 => ?_) (fun c_94 => ?_)
                          · omega
                          · refine lv_aload_n hx hb dL_isStationSo_152 rfl (lv_at hl 3 rfl) ?_
                            refine lv_iload_n hx hb dL_isStationSo_153 rfl (lv_at hl 4 rfl) ?_
                            refine lv_iload hx hb dL_isStationSo_154 (lv_at hl 7 rfl) ?_
                            refine lv_iconst (v := (3 : Int32)) hx hb dL_isStationSo_156 (by decide) ?_
                            refine z_cV (As := [.int xt, .int x5, .int (3 : Int32)]) (rest := []) ⟨hx, hb, hml, hown, hts⟩ (kX4_hour l G z σ xt t e_xt x5 i5 hx5 (3 : Int32) (3 : Int) kI_3 (by first | assumption | omega)) (cwV 3 hts gL_isStationSo_X4_hour rfl rfl rfl hyX4_hour ⟨Nat.le_of_ble_eq_true rfl, Nat.le_of_ble_eq_true rfl⟩) hK hF hF.1 rfl rfl hl.1 rfl (Nat.le_of_ble_eq_true rfl) dL_isStationSo_157 ⟨Nat.zero_le _, Nat.zero_le _⟩ (fun z95 e95 => ?_)
                            have e95 : z95.toInt = a_hour σ t i5 (3 : Int) := e95
                            refine lv_aload_n hx hb dL_isStationSo_160 rfl (lv_at hl 3 rfl) ?_
                            refine lv_iload_n hx hb dL_isStationSo_161 rfl (lv_at hl 4 rfl) ?_
                            refine lv_bipush (v := (7 : Int32)) hx hb dL_isStationSo_162 (by decide) ?_
                            refine z_cV (As := [.int xt, .int (7 : Int32)]) (rest := [.int z95]) ⟨hx, hb, hml, hown, hts⟩ (kX4_station l G z σ xt t e_xt (7 : Int32) (7 : Int) kI_7 (by first | assumption | omega)) (cwV 2 hts gL_isStationSo_X4_station rfl rfl rfl hyX4_station ⟨Nat.le_of_ble_eq_true rfl, Nat.le_of_ble_eq_true rfl⟩) hK hF hF.1 rfl rfl hl.1 rfl (Nat.le_of_ble_eq_true rfl) dL_isStationSo_164 ⟨Nat.zero_le _, Nat.zero_le _⟩ (fun z96 e96 => ?_)
                            have e96 : z96.toInt = a_station σ t (7 : Int) := e96
                            refine z_icmp_le (tgt := 172) hx hb e95 e96 dL_isStationSo_167 (by decide) (fun c_97 => ?_) (fun c_97 => ?_)
                            · refine z_iinc (k := 7) hx hb dL_isStationSo_172 hl rfl hx5 (show (Int32.ofInt 1).toInt = (1 : Int) from rfl) (by omega) (by decide) (fun z98 e98 ls hl => ?_)
                              have hl : lv_has ls 10 [(5, .int z98), (3, .int z80), (7, .int z78), (6, .int z77), (0, .ref z), (1, .int xt), (2, .int z1), (4, .int (0 : Int32))] := hl
                              refine lv_goto (tgt := 14) hx hb dL_isStationSo_175 (by decide) ?_
                              exact ih14 z80 (i3 + (1 : Int)) e80 z98 (i5 + (1 : Int)) e98 (by omega) (by omega) (by first | rfl | (rw [hcc]; omega)) ls (lv_sub hl [4, 5, 6, 7, 1, 0] rfl)
                            · omega
                    · omega
                  · omega
                · omega
            · omega
          · omega
        · have hcc := kc_f (σ := σ) (t := t) (i := i5) (by omega) (by omega)
          refine lv_iconst (v := (0 : Int32)) hx hb dL_isStationSo_48 (by decide) ?_
          refine lv_goto (tgt := 53) hx hb dL_isStationSo_49 (by decide) ?_
          refine z_iadd hx hb hx3 kI_0 dL_isStationSo_53 (by omega) (fun z99 e99 => ?_)
          refine lv_istore_n hx hb dL_isStationSo_54 rfl hl (by decide) rfl (fun ls hl => ?_)
          have hl : lv_has ls 10 [(3, .int z99), (7, .int z78), (6, .int z77), (0, .ref z), (1, .int xt), (2, .int z1), (4, .int (0 : Int32)), (5, .int x5)] := hl
          refine lv_iload hx hb dL_isStationSo_55 (lv_at hl 2 rfl) ?_
          refine lv_bipush (v := (-5 : Int32)) hx hb dL_isStationSo_57 (by decide) ?_
          refine z_icmp_ne (tgt := 66) hx hb e77 kI_m5 dL_isStationSo_59 (by decide) (fun c_100 => ?_) (fun c_100 => ?_)
          · omega
          · refine lv_iconst (v := (1 : Int32)) hx hb dL_isStationSo_62 (by decide) ?_
            refine lv_goto (tgt := 67) hx hb dL_isStationSo_63 (by decide) ?_
            refine lv_iload hx hb dL_isStationSo_67 (lv_at hl 1 rfl) ?_
            refine z_if_le (tgt := 76) hx hb e78 dL_isStationSo_69 (by decide) (fun c_101 => ?_) (fun c_101 => ?_)
            · omega
            · refine lv_iconst (v := (1 : Int32)) hx hb dL_isStationSo_72 (by decide) ?_
              refine lv_goto (tgt := 77) hx hb dL_isStationSo_73 (by decide) ?_
              refine z_icmp_ne (tgt := 112) hx hb kI_1 kI_1 dL_isStationSo_77 (by decide) (fun c_102 => ?_) (fun c_102 => ?_)
              · omega
              · refine lv_iload hx hb dL_isStationSo_80 (lv_at hl 1 rfl) ?_
                refine lv_iconst (v := (2 : Int32)) hx hb dL_isStationSo_82 (by decide) ?_
                refine z_icmp_ne (tgt := 90) hx hb e78 kI_2 dL_isStationSo_83 (by decide) (fun c_103 => ?_) (fun c_103 => ?_)
                · refine lv_iconst (v := (0 : Int32)) hx hb dL_isStationSo_90 (by decide) ?_
                  refine lv_aload_n hx hb dL_isStationSo_91 rfl (lv_at hl 3 rfl) ?_
                  refine lv_iload_n hx hb dL_isStationSo_92 rfl (lv_at hl 4 rfl) ?_
                  refine lv_iload hx hb dL_isStationSo_93 (lv_at hl 7 rfl) ?_
                  refine lv_iconst (v := (2 : Int32)) hx hb dL_isStationSo_95 (by decide) ?_
                  refine z_cV (As := [.int xt, .int x5, .int (2 : Int32)]) (rest := [.int (0 : Int32)]) ⟨hx, hb, hml, hown, hts⟩ (kX4_hour l G z σ xt t e_xt x5 i5 hx5 (2 : Int32) (2 : Int) kI_2 (by first | assumption | omega)) (cwV 3 hts gL_isStationSo_X4_hour rfl rfl rfl hyX4_hour ⟨Nat.le_of_ble_eq_true rfl, Nat.le_of_ble_eq_true rfl⟩) hK hF hF.1 rfl rfl hl.1 rfl (Nat.le_of_ble_eq_true rfl) dL_isStationSo_96 ⟨Nat.zero_le _, Nat.zero_le _⟩ (fun z104 e104 => ?_)
                  have e104 : z104.toInt = a_hour σ t i5 (2 : Int) := e104
                  refine lv_bipush (v := (-5 : Int32)) hx hb dL_isStationSo_99 (by decide) ?_
                  refine z_icmp_eq (tgt := 108) hx hb e104 kI_m5 dL_isStationSo_101 (by decide) (fun c_105 => ?_) (fun c_105 => ?_)
                  · refine lv_iconst (v := (0 : Int32)) hx hb dL_isStationSo_108 (by decide) ?_
                    refine z_icmp_eq (tgt := 114) hx hb kI_0 kI_0 dL_isStationSo_109 (by decide) (fun c_106 => ?_) (fun c_106 => ?_)
                    · refine lv_iload hx hb dL_isStationSo_114 (lv_at hl 2 rfl) ?_
                      refine z_if_lt (tgt := 172) hx hb e77 dL_isStationSo_116 (by decide) (fun c_107 => ?_) (fun c_107 => ?_)
                      · refine z_iinc (k := 7) hx hb dL_isStationSo_172 hl rfl hx5 (show (Int32.ofInt 1).toInt = (1 : Int) from rfl) (by omega) (by decide) (fun z108 e108 ls hl => ?_)
                        have hl : lv_has ls 10 [(5, .int z108), (3, .int z99), (7, .int z78), (6, .int z77), (0, .ref z), (1, .int xt), (2, .int z1), (4, .int (0 : Int32))] := hl
                        refine lv_goto (tgt := 14) hx hb dL_isStationSo_175 (by decide) ?_
                        exact ih14 z99 (i3 + (0 : Int)) e99 z108 (i5 + (1 : Int)) e108 (by omega) (by omega) (by first | rfl | (rw [hcc]; omega)) ls (lv_sub hl [4, 5, 6, 7, 1, 0] rfl)
                      · omega
                    · omega
                  · omega
                · refine lv_iconst (v := (1 : Int32)) hx hb dL_isStationSo_86 (by decide) ?_
                  refine lv_goto (tgt := 91) hx hb dL_isStationSo_87 (by decide) ?_
                  refine lv_aload_n hx hb dL_isStationSo_91 rfl (lv_at hl 3 rfl) ?_
                  refine lv_iload_n hx hb dL_isStationSo_92 rfl (lv_at hl 4 rfl) ?_
                  refine lv_iload hx hb dL_isStationSo_93 (lv_at hl 7 rfl) ?_
                  refine lv_iconst (v := (2 : Int32)) hx hb dL_isStationSo_95 (by decide) ?_
                  refine z_cV (As := [.int xt, .int x5, .int (2 : Int32)]) (rest := [.int (1 : Int32)]) ⟨hx, hb, hml, hown, hts⟩ (kX4_hour l G z σ xt t e_xt x5 i5 hx5 (2 : Int32) (2 : Int) kI_2 (by first | assumption | omega)) (cwV 3 hts gL_isStationSo_X4_hour rfl rfl rfl hyX4_hour ⟨Nat.le_of_ble_eq_true rfl, Nat.le_of_ble_eq_true rfl⟩) hK hF hF.1 rfl rfl hl.1 rfl (Nat.le_of_ble_eq_true rfl) dL_isStationSo_96 ⟨Nat.zero_le _, Nat.zero_le _⟩ (fun z109 e109 => ?_)
                  have e109 : z109.toInt = a_hour σ t i5 (2 : Int) := e109
                  refine lv_bipush (v := (-5 : Int32)) hx hb dL_isStationSo_99 (by decide) ?_
                  refine z_icmp_eq (tgt := 108) hx hb e109 kI_m5 dL_isStationSo_101 (by decide) (fun c_110 => ?_) (fun c_110 => ?_)
                  · omega
                  · refine lv_iconst (v := (1 : Int32)) hx hb dL_isStationSo_104 (by decide) ?_
                    refine lv_goto (tgt := 109) hx hb dL_isStationSo_105 (by decide) ?_
                    refine z_icmp_eq (tgt := 114) hx hb kI_1 kI_1 dL_isStationSo_109 (by decide) (fun c_111 => ?_) (fun c_111 => ?_)
                    · refine lv_iload hx hb dL_isStationSo_114 (lv_at hl 2 rfl) ?_
                      refine z_if_lt (tgt := 172) hx hb e77 dL_isStationSo_116 (by decide) (fun c_112 => ?_) (fun c_112 => ?_)
                      · refine z_iinc (k := 7) hx hb dL_isStationSo_172 hl rfl hx5 (show (Int32.ofInt 1).toInt = (1 : Int) from rfl) (by omega) (by decide) (fun z113 e113 ls hl => ?_)
                        have hl : lv_has ls 10 [(5, .int z113), (3, .int z99), (7, .int z78), (6, .int z77), (0, .ref z), (1, .int xt), (2, .int z1), (4, .int (0 : Int32))] := hl
                        refine lv_goto (tgt := 14) hx hb dL_isStationSo_175 (by decide) ?_
                        exact ih14 z99 (i3 + (0 : Int)) e99 z113 (i5 + (1 : Int)) e113 (by omega) (by omega) (by first | rfl | (rw [hcc]; omega)) ls (lv_sub hl [4, 5, 6, 7, 1, 0] rfl)
                      · omega
                    · omega
  exact cut14 (((σ.1.1.toInt - (0 : Int)).toNat) + 1) (0 : Int32) (0 : Int) kI_0 (0 : Int32) (0 : Int) kI_0 (Nat.lt_succ_self _) (by omega) (by first | rfl | (rw [hcc]; omega)) ls (lv_sub hl [4, 5, 3, 1, 2, 0] rfl)
