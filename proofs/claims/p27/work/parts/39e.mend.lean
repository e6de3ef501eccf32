abbrev rmL_isMendSo : Room := { frames := 7, cells := 0, slots := 0, locals := 166 }
theorem hyL_isMendSo : yL_isMendSo.cls ≠ "java/lang/invoke/MethodHandle" ∧ yL_isMendSo.cls ≠ "java/lang/invoke/VarHandle" ∧ (parseMethodDescriptor yL_isMendSo.desc).map (fun d => d.parameters.length) = some 4 := by decide +kernel
set_option maxHeartbeats 4000000 in
set_option maxRecDepth 100000 in
theorem kL_isMendSo (l : Launch) (G : xG) (z : Nat) (σ : FD) (xt : Int32) (t : Int) (e_xt : xt.toInt = t) (xk : Int32) (k : Int) (e_xk : xk.toInt = k) (xo : Int32) (o : Int) (e_xo : xo.toInt = o) (hmc : MC σ t k o) : Met l yL_isMendSo wsL_isMendSo rmL_isMendSo (va_Pc [.ref z, .int xt, .int xk, .int xo] (zPre G (fun H => SFP G H z σ))) (zW (fun v => v.toInt = (1 : Int)) (fun H => ∃ n9 : FD, SFP G H z n9 ∧ (fdX n9 ∧ a_station σ t 11 ≤ a_station n9 t 11)) (iv z 112)) 0 0 (iv z 112) := by
  refine z_ofW (cc := cL_isMendSo) (maxL := 12) (ret := some .boolean) (by decide +kernel) rfl (Nat.le_of_ble_eq_true rfl) ?_
  intro p e s m below meth c hx hb hml hr hts hown hlocks hK hP ls hl
  have hF := hP
  have hown : s.vm.findClass RL = some m.cls := hown
  have hl : lv_has ls 12 [(0, .ref z), (1, .int xt), (2, .int xk), (3, .int xo)] := hl
  have hS : va_S (iv z 112) s.heap s.heap [] := va_S.rf
  have hfx := hmc.1
  have hok := hfx.1
  obtain ⟨bpf, hbp⟩ : ∃ g : Unit → Int, ∀ u, a_bestPhase σ t k o = g u := ⟨fun _ => a_bestPhase σ t k o, fun _ => rfl⟩
  obtain ⟨mis, hmis⟩ : ∃ g : Int → Int, ∀ u, a_misfit σ t k o u = g u := ⟨fun u => a_misfit σ t k o u, fun _ => rfl⟩
  obtain ⟨gp, hgp⟩ : ∃ g : Int → Int, ∀ u, a_gap σ t k u = g u := ⟨fun u => a_gap σ t k u, fun _ => rfl⟩
  obtain ⟨rt, hrt⟩ : ∃ g : Int → Int → Int, ∀ u v, a_hour σ t u v = g u v := ⟨fun u v => a_hour σ t u v, fun _ _ => rfl⟩
  obtain ⟨ro, hro⟩ : ∃ g : Int → Int → Int, ∀ u v, a_hour σ o u v = g u v := ⟨fun u v => a_hour σ o u v, fun _ _ => rfl⟩
  refine lv_aload_n hx hb dL_isMendSo_0 rfl (lv_at hl 0 rfl) ?_
  refine lv_iload_n hx hb dL_isMendSo_1 rfl (lv_at hl 1 rfl) ?_
  refine lv_iload_n hx hb dL_isMendSo_2 rfl (lv_at hl 2 rfl) ?_
  refine lv_iload_n hx hb dL_isMendSo_3 rfl (lv_at hl 3 rfl) ?_
  refine z_cV (As := [.int xt, .int xk, .int xo]) (rest := []) ⟨hx, hb, hml, hown, hts⟩ (kX4_bestPhase l G z σ xt t e_xt xk k e_xk xo o e_xo hok) (cwV 3 hts gL_isMendSo_X4_bestPhase rfl rfl rfl hyX4_bestPhase ⟨Nat.le_of_ble_eq_true rfl, Nat.le_of_ble_eq_true rfl⟩) hK hF hF.1 rfl rfl hl.1 rfl (Nat.le_of_ble_eq_true rfl) dL_isMendSo_4 ⟨Nat.zero_le _, Nat.zero_le _⟩ (fun z1 e1 => ?_)
  replace e1 : z1.toInt = a_bestPhase σ t k o := e1
  replace e1 : z1.toInt = bpf () := by rw [e1]; exact hbp ()
  refine lv_istore hx hb dL_isMendSo_7 hl (by decide) rfl (fun ls hl => ?_)
  have hl : lv_has ls 12 [(4, .int z1), (0, .ref z), (1, .int xt), (2, .int xk), (3, .int xo)] := hl
  refine lv_aload_n hx hb dL_isMendSo_9 rfl (lv_at hl 1 rfl) ?_
  refine lv_iload_n hx hb dL_isMendSo_10 rfl (lv_at hl 2 rfl) ?_
  refine lv_iload_n hx hb dL_isMendSo_11 rfl (lv_at hl 3 rfl) ?_
  refine lv_iconst (v := (2 : Int32)) hx hb dL_isMendSo_12 (by decide) ?_
  refine z_cV (As := [.int xt, .int xk, .int (2 : Int32)]) (rest := []) ⟨hx, hb, hml, hown, hts⟩ (kX4_gap l G z σ xt t e_xt xk k e_xk (2 : Int32) (2 : Int) kI_2 hok) (cwV 3 hts gL_isMendSo_X4_gap rfl rfl rfl hyX4_gap ⟨Nat.le_of_ble_eq_true rfl, Nat.le_of_ble_eq_true rfl⟩) hK hF hF.1 rfl rfl hl.1 rfl (Nat.le_of_ble_eq_true rfl) dL_isMendSo_13 ⟨Nat.zero_le _, Nat.zero_le _⟩ (fun z2 e2 => ?_)
  replace e2 : z2.toInt = a_gap σ t k (2 : Int) := e2
  replace e2 : z2.toInt = gp (2 : Int) := by rw [e2]; exact hgp _
  refine z_if_ne (tgt := 45) hx hb e2 dL_isMendSo_16 (by decide) (fun c_3 => ?_) (fun c_3 => ?_)
  · have hin := fun (_ : Unit) => (show a_gap σ t k 2 ≠ 0 by rw [hgp]; exact c_3)
    have hbs : bpf () = -5 ∨ (88 ≤ bpf () ∧ bpf () ≤ 112) := by rw [← hbp ()]; exact (bs_all hmc (hin ())).imp id (fun q => q.1)
    refine lv_bipush (v := (-12 : Int32)) hx hb dL_isMendSo_45 (by decide) ?_
    refine lv_istore hx hb dL_isMendSo_47 hl (by decide) rfl (fun ls hl => ?_)
    have hl : lv_has ls 12 [(5, .int (-12 : Int32)), (4, .int z1), (0, .ref z), (1, .int xt), (2, .int xk), (3, .int xo)] := hl
    have cut49 : ∀ (n49 : Nat), ∀ (x5 : Int32) (i5 : Int) (_ : x5.toInt = i5), (13 - i5).toNat < n49 → (-12 ≤ i5 ∧ i5 ≤ 13) → ∀ ls : Array Slot, lv_has ls 12 [(0, .ref z), (1, .int xt), (2, .int xk), (3, .int xo), (4, .int z1), (5, .int x5)] → W p l e rmL_isMendSo s m ([.ref z, .int xt, .int xk, .int xo] : List Value).toArray below meth c s.heap [] 0 0 (MQ below (zW (fun v => v.toInt = (1 : Int)) (fun H => ∃ n9 : FD, SFP G H z n9 ∧ (fdX n9 ∧ a_station σ t 11 ≤ a_station n9 t 11)) (iv z 112)) ([.ref z, .int xt, .int xk, .int xo] : List Value).toArray s 0 0 (iv z 112)) (F0 m 49 ls []) := by
      intro n49
      induction n49 with
      | zero =>
        intro x5 i5 hx5 hmu49 hi49_0 ls hl
        exact absurd hmu49 (Nat.not_lt_zero _)
      | succ n49 ih49 =>
        intro x5 i5 hx5 hmu49 hi49_0 ls hl
        try clear e2
        try clear e3
        refine lv_iload hx hb dL_isMendSo_49 (lv_at hl 5 rfl) ?_
        refine lv_bipush (v := (12 : Int32)) hx hb dL_isMendSo_51 (by decide) ?_
        refine z_icmp_gt (tgt := 187) hx hb hx5 kI_12 dL_isMendSo_53 (by decide) (fun c_4 => ?_) (fun c_4 => ?_)
        · refine lv_iload hx hb dL_isMendSo_187 (lv_at hl 4 rfl) ?_
          refine z_if_ge (tgt := 205) hx hb e1 dL_isMendSo_189 (by decide) (fun c_5 => ?_) (fun c_5 => ?_)
          · obtain ⟨A, E, F, ma, mb, hp1, hp2, hp3, hp4, hp5, hp6, hp7⟩ := (ME.of hmc (hin ()) (by rw [hbp ()]; exact c_5)).pack
            simp only [hbp (), hgp, hrt, hro] at hp1 hp3 hp4
            replace hp5 := fun (_ : Unit) => hp5
            replace hp6 := fun (_ : Unit) => hp6
            refine lv_iload hx hb dL_isMendSo_205 (lv_at hl 4 rfl) ?_
            refine lv_bipush (v := (100 : Int32)) hx hb dL_isMendSo_207 (by decide) ?_
            refine z_isub hx hb e1 kI_100 dL_isMendSo_209 (by omega) (fun z6 e6 => ?_)
            replace e6 : z6.toInt = F := by rw [e6]; omega
            refine lv_istore hx hb dL_isMendSo_210 hl (by decide) rfl (fun ls hl => ?_)
            have hl : lv_has ls 12 [(5, .int z6), (0, .ref z), (1, .int xt), (2, .int xk), (3, .int xo), (4, .int z1)] := hl
            refine lv_aload_n hx hb dL_isMendSo_212 rfl (lv_at hl 1 rfl) ?_
            refine lv_iload_n hx hb dL_isMendSo_213 rfl (lv_at hl 2 rfl) ?_
            refine lv_iload_n hx hb dL_isMendSo_214 rfl (lv_at hl 3 rfl) ?_
            refine lv_iconst (v := (0 : Int32)) hx hb dL_isMendSo_215 (by decide) ?_
            refine z_cV (As := [.int xt, .int xk, .int (0 : Int32)]) (rest := []) ⟨hx, hb, hml, hown, hts⟩ (kX4_gap l G z σ xt t e_xt xk k e_xk (0 : Int32) (0 : Int) kI_0 hok) (cwV 3 hts gL_isMendSo_X4_gap rfl rfl rfl hyX4_gap ⟨Nat.le_of_ble_eq_true rfl, Nat.le_of_ble_eq_true rfl⟩) hK hF hF.1 rfl rfl hl.1 rfl (Nat.le_of_ble_eq_true rfl) dL_isMendSo_216 ⟨Nat.zero_le _, Nat.zero_le _⟩ (fun z7 e7 => ?_)
            replace e7 : z7.toInt = a_gap σ t k (0 : Int) := e7
            replace e7 : z7.toInt = gp (0 : Int) := by rw [e7]; exact hgp _
            refine lv_iconst (v := (1 : Int32)) hx hb dL_isMendSo_219 (by decide) ?_
            refine z_isub hx hb e7 kI_1 dL_isMendSo_220 (by omega) (fun z8 e8 => ?_)
            replace e8 : z8.toInt = A := by rw [e8]; omega
            refine lv_istore hx hb dL_isMendSo_221 hl (by decide) rfl (fun ls hl => ?_)
            have hl : lv_has ls 12 [(6, .int z8), (5, .int z6), (0, .ref z), (1, .int xt), (2, .int xk), (3, .int xo), (4, .int z1)] := hl
            refine lv_aload_n hx hb dL_isMendSo_223 rfl (lv_at hl 2 rfl) ?_
            refine lv_iload_n hx hb dL_isMendSo_224 rfl (lv_at hl 3 rfl) ?_
            refine lv_iload_n hx hb dL_isMendSo_225 rfl (lv_at hl 4 rfl) ?_
            refine lv_iconst (v := (1 : Int32)) hx hb dL_isMendSo_226 (by decide) ?_
            refine z_cV (As := [.int xt, .int xk, .int (1 : Int32)]) (rest := []) ⟨hx, hb, hml, hown, hts⟩ (kX4_gap l G z σ xt t e_xt xk k e_xk (1 : Int32) (1 : Int) kI_1 hok) (cwV 3 hts gL_isMendSo_X4_gap rfl rfl rfl hyX4_gap ⟨Nat.le_of_ble_eq_true rfl, Nat.le_of_ble_eq_true rfl⟩) hK hF hF.1 rfl rfl hl.1 rfl (Nat.le_of_ble_eq_true rfl) dL_isMendSo_227 ⟨Nat.zero_le _, Nat.zero_le _⟩ (fun z9 e9 => ?_)
            replace e9 : z9.toInt = a_gap σ t k (1 : Int) := e9
            replace e9 : z9.toInt = gp (1 : Int) := by rw [e9]; exact hgp _
            refine lv_iconst (v := (1 : Int32)) hx hb dL_isMendSo_230 (by decide) ?_
            refine z_iadd hx hb e9 kI_1 dL_isMendSo_231 (by omega) (fun z10 e10 => ?_)
            replace e10 : z10.toInt = E := by rw [e10]; omega
            refine lv_istore hx hb dL_isMendSo_232 hl (by decide) rfl (fun ls hl => ?_)
            have hl : lv_has ls 12 [(7, .int z10), (6, .int z8), (5, .int z6), (0, .ref z), (1, .int xt), (2, .int xk), (3, .int xo), (4, .int z1)] := hl
            refine lv_aload_n hx hb dL_isMendSo_234 rfl (lv_at hl 3 rfl) ?_
            refine lv_iload_n hx hb dL_isMendSo_235 rfl (lv_at hl 4 rfl) ?_
            refine lv_iload hx hb dL_isMendSo_236 (lv_at hl 1 rfl) ?_
            refine lv_iconst (v := (1 : Int32)) hx hb dL_isMendSo_238 (by decide) ?_
            refine z_cV (As := [.int xt, .int z8, .int (1 : Int32)]) (rest := []) ⟨hx, hb, hml, hown, hts⟩ (kX4_hour l G z σ xt t e_xt z8 A e8 (1 : Int32) (1 : Int) kI_1 hok) (cwV 3 hts gL_isMendSo_X4_hour rfl rfl rfl hyX4_hour ⟨Nat.le_of_ble_eq_true rfl, Nat.le_of_ble_eq_true rfl⟩) hK hF hF.1 rfl rfl hl.1 rfl (Nat.le_of_ble_eq_true rfl) dL_isMendSo_239 ⟨Nat.zero_le _, Nat.zero_le _⟩ (fun z11 e11 => ?_)
            replace e11 : z11.toInt = a_hour σ t A (1 : Int) := e11
            replace e11 : z11.toInt = rt A (1 : Int) := by rw [e11]; exact hrt _ _
            refine lv_aload_n hx hb dL_isMendSo_242 rfl (lv_at hl 3 rfl) ?_
            refine lv_iload_n hx hb dL_isMendSo_243 rfl (lv_at hl 6 rfl) ?_
            refine lv_iload hx hb dL_isMendSo_244 (lv_at hl 1 rfl) ?_
            refine lv_iload hx hb dL_isMendSo_246 (lv_at hl 2 rfl) ?_
            refine z_iadd hx hb e8 e6 dL_isMendSo_248 (by omega) (fun z12 e12 => ?_)
            refine lv_iconst (v := (1 : Int32)) hx hb dL_isMendSo_249 (by decide) ?_
            refine z_cV (As := [.int xo, .int z12, .int (1 : Int32)]) (rest := [.int z11]) ⟨hx, hb, hml, hown, hts⟩ (kX4_hour l G z σ xo o e_xo z12 (A + F) e12 (1 : Int32) (1 : Int) kI_1 hok) (cwV 3 hts gL_isMendSo_X4_hour rfl rfl rfl hyX4_hour ⟨Nat.le_of_ble_eq_true rfl, Nat.le_of_ble_eq_true rfl⟩) hK hF hF.1 rfl rfl hl.1 rfl (Nat.le_of_ble_eq_true rfl) dL_isMendSo_250 ⟨Nat.zero_le _, Nat.zero_le _⟩ (fun z13 e13 => ?_)
            replace e13 : z13.toInt = a_hour σ o (A + F) (1 : Int) := e13
            replace e13 : z13.toInt = ro (A + F) (1 : Int) := by rw [e13]; exact hro _ _
            refine z_isub hx hb e11 e13 dL_isMendSo_253 (by omega) (fun z14 e14 => ?_)
            replace e14 : z14.toInt = ma := by rw [e14]; omega
            refine lv_istore hx hb dL_isMendSo_254 hl (by decide) rfl (fun ls hl => ?_)
            have hl : lv_has ls 12 [(8, .int z14), (7, .int z10), (6, .int z8), (5, .int z6), (0, .ref z), (1, .int xt), (2, .int xk), (3, .int xo), (4, .int z1)] := hl
            refine lv_aload_n hx hb dL_isMendSo_256 rfl (lv_at hl 4 rfl) ?_
            refine lv_iload_n hx hb dL_isMendSo_257 rfl (lv_at hl 5 rfl) ?_
            refine lv_iload hx hb dL_isMendSo_258 (lv_at hl 1 rfl) ?_
            refine lv_iconst (v := (1 : Int32)) hx hb dL_isMendSo_260 (by decide) ?_
            refine z_cV (As := [.int xt, .int z10, .int (1 : Int32)]) (rest := []) ⟨hx, hb, hml, hown, hts⟩ (kX4_hour l G z σ xt t e_xt z10 E e10 (1 : Int32) (1 : Int) kI_1 hok) (cwV 3 hts gL_isMendSo_X4_hour rfl rfl rfl hyX4_hour ⟨Nat.le_of_ble_eq_true rfl, Nat.le_of_ble_eq_true rfl⟩) hK hF hF.1 rfl rfl hl.1 rfl (Nat.le_of_ble_eq_true rfl) dL_isMendSo_261 ⟨Nat.zero_le _, Nat.zero_le _⟩ (fun z15 e15 => ?_)
            replace e15 : z15.toInt = a_hour σ t E (1 : Int) := e15
            replace e15 : z15.toInt = rt E (1 : Int) := by rw [e15]; exact hrt _ _
            refine lv_aload_n hx hb dL_isMendSo_264 rfl (lv_at hl 4 rfl) ?_
            refine lv_iload_n hx hb dL_isMendSo_265 rfl (lv_at hl 7 rfl) ?_
            refine lv_iload hx hb dL_isMendSo_266 (lv_at hl 1 rfl) ?_
            refine lv_iload hx hb dL_isMendSo_268 (lv_at hl 3 rfl) ?_
            refine z_iadd hx hb e10 e6 dL_isMendSo_270 (by omega) (fun z16 e16 => ?_)
            refine lv_iconst (v := (1 : Int32)) hx hb dL_isMendSo_271 (by decide) ?_
            refine z_cV (As := [.int xo, .int z16, .int (1 : Int32)]) (rest := [.int z15]) ⟨hx, hb, hml, hown, hts⟩ (kX4_hour l G z σ xo o e_xo z16 (E + F) e16 (1 : Int32) (1 : Int) kI_1 hok) (cwV 3 hts gL_isMendSo_X4_hour rfl rfl rfl hyX4_hour ⟨Nat.le_of_ble_eq_true rfl, Nat.le_of_ble_eq_true rfl⟩) hK hF hF.1 rfl rfl hl.1 rfl (Nat.le_of_ble_eq_true rfl) dL_isMendSo_272 ⟨Nat.zero_le _, Nat.zero_le _⟩ (fun z17 e17 => ?_)
            replace e17 : z17.toInt = a_hour σ o (E + F) (1 : Int) := e17
            replace e17 : z17.toInt = ro (E + F) (1 : Int) := by rw [e17]; exact hro _ _
            refine z_isub hx hb e15 e17 dL_isMendSo_275 (by omega) (fun z18 e18 => ?_)
            replace e18 : z18.toInt = mb := by rw [e18]; omega
            refine lv_iload hx hb dL_isMendSo_276 (lv_at hl 0 rfl) ?_
            refine z_isub hx hb e18 e14 dL_isMendSo_278 (by omega) (fun z19 e19 => ?_)
            refine lv_istore hx hb dL_isMendSo_279 hl (by decide) rfl (fun ls hl => ?_)
            have hl : lv_has ls 12 [(9, .int z19), (8, .int z14), (7, .int z10), (6, .int z8), (5, .int z6), (0, .ref z), (1, .int xt), (2, .int xk), (3, .int xo), (4, .int z1)] := hl
            refine lv_aload_n hx hb dL_isMendSo_281 rfl (lv_at hl 5 rfl) ?_
            refine lv_iload_n hx hb dL_isMendSo_282 rfl (lv_at hl 6 rfl) ?_
            refine lv_iload_n hx hb dL_isMendSo_283 rfl (lv_at hl 7 rfl) ?_
            refine lv_iload_n hx hb dL_isMendSo_284 rfl (lv_at hl 8 rfl) ?_
            refine lv_iload hx hb dL_isMendSo_285 (lv_at hl 4 rfl) ?_
            refine z_cVw (As := [.int xt, .int xk, .int xo, .int z6]) (rest := []) ⟨hx, hb, hml, hown, hts⟩ (kX4_mend l G z σ xt t e_xt xk k e_xk xo o e_xo z6 F e6 hok) (cwV 4 hts gL_isMendSo_X4_mend rfl rfl rfl hyX4_mend ⟨Nat.le_of_ble_eq_true rfl, Nat.le_of_ble_eq_true rfl⟩) hK hF hF.1 rfl rfl hl.1 rfl (Nat.le_of_ble_eq_true rfl) dL_isMendSo_287 ⟨Nat.zero_le _, Nat.zero_le _⟩ hS (fun q h => by simp only [iv] at h ⊢; omega) (fun z20 H locs e20 hB hsz hq hS => ?_)
            have hF := hB
            have hF : SFP G H z (s_mend σ t k o F) := hF
            replace e20 : z20.toInt = a_mend σ t k o F := e20
            replace e20 : z20.toInt = E - A - 1 := by rw [e20]; exact (hp5 ()).1
            have hok2 := (hp6 ()).1.1
            obtain ⟨rt2, hrt2⟩ : ∃ g : Int → Int → Int, ∀ u v, a_hour (s_mend σ t k o F) t u v = g u v := ⟨fun u v => a_hour (s_mend σ t k o F) t u v, fun _ _ => rfl⟩
            obtain ⟨ro2, hro2⟩ : ∃ g : Int → Int → Int, ∀ u v, a_hour (s_mend σ t k o F) o u v = g u v := ⟨fun u v => a_hour (s_mend σ t k o F) o u v, fun _ _ => rfl⟩
            refine lv_iload hx hb dL_isMendSo_290 (lv_at hl 2 rfl) ?_
            refine lv_iload hx hb dL_isMendSo_292 (lv_at hl 3 rfl) ?_
            refine z_isub hx hb e10 e8 dL_isMendSo_294 (by omega) (fun z21 e21 => ?_)
            refine lv_iconst (v := (1 : Int32)) hx hb dL_isMendSo_295 (by decide) ?_
            refine z_isub hx hb e21 kI_1 dL_isMendSo_296 (by omega) (fun z22 e22 => ?_)
            refine z_icmp_ne (tgt := 321) hx hb e20 e22 dL_isMendSo_297 (by decide) (fun c_23 => ?_) (fun c_23 => ?_)
            · omega
            · refine lv_aload_n hx hb dL_isMendSo_300 rfl (lv_at hl 5 rfl) ?_
              refine lv_iload_n hx hb dL_isMendSo_301 rfl (lv_at hl 6 rfl) ?_
              refine lv_iload_n hx hb dL_isMendSo_302 rfl (lv_at hl 7 rfl) ?_
              refine lv_iconst (v := (3 : Int32)) hx hb dL_isMendSo_303 (by decide) ?_
              refine z_cV (As := [.int xt, .int xk, .int (3 : Int32)]) (rest := []) ⟨hx, hb, hml, hown, hts⟩ (kX4_gap l G z (s_mend σ t k o F) xt t e_xt xk k e_xk (3 : Int32) (3 : Int) kI_3 hok2) (cwV 3 hts gL_isMendSo_X4_gap rfl rfl rfl hyX4_gap ⟨Nat.le_of_ble_eq_true rfl, Nat.le_of_ble_eq_true rfl⟩) hK hF hF.1 rfl rfl hl.1 rfl (Nat.le_of_ble_eq_true rfl) dL_isMendSo_304 ⟨Nat.zero_le _, Nat.zero_le _⟩ (fun z24 e24 => ?_)
              replace e24 : z24.toInt = a_gap (s_mend σ t k o F) t k (3 : Int) := e24
              replace e24 : z24.toInt = E - A - 1 := by rw [e24]; exact (hp5 ()).2
              refine lv_iload hx hb dL_isMendSo_307 (lv_at hl 2 rfl) ?_
              refine lv_iload hx hb dL_isMendSo_309 (lv_at hl 3 rfl) ?_
              refine z_isub hx hb e10 e8 dL_isMendSo_311 (by omega) (fun z25 e25 => ?_)
              refine lv_iconst (v := (1 : Int32)) hx hb dL_isMendSo_312 (by decide) ?_
              refine z_isub hx hb e25 kI_1 dL_isMendSo_313 (by omega) (fun z26 e26 => ?_)
              refine z_icmp_ne (tgt := 321) hx hb e24 e26 dL_isMendSo_314 (by decide) (fun c_27 => ?_) (fun c_27 => ?_)
              · omega
              · refine lv_iconst (v := (1 : Int32)) hx hb dL_isMendSo_317 (by decide) ?_
                refine lv_goto (tgt := 322) hx hb dL_isMendSo_318 (by decide) ?_
                refine lv_istore hx hb dL_isMendSo_322 hl (by decide) rfl (fun ls hl => ?_)
                have hl : lv_has ls 12 [(10, .int (1 : Int32)), (9, .int z19), (8, .int z14), (7, .int z10), (6, .int z8), (5, .int z6), (0, .ref z), (1, .int xt), (2, .int xk), (3, .int xo), (4, .int z1)] := hl
                refine lv_iload hx hb dL_isMendSo_324 (lv_at hl 4 rfl) ?_
                refine lv_iconst (v := (1 : Int32)) hx hb dL_isMendSo_326 (by decide) ?_
                refine z_iadd hx hb e8 kI_1 dL_isMendSo_327 (by omega) (fun z28 e28 => ?_)
                refine lv_istore hx hb dL_isMendSo_328 hl (by decide) rfl (fun ls hl => ?_)
                have hl : lv_has ls 12 [(11, .int z28), (10, .int (1 : Int32)), (9, .int z19), (8, .int z14), (7, .int z10), (6, .int z8), (5, .int z6), (0, .ref z), (1, .int xt), (2, .int xk), (3, .int xo), (4, .int z1)] := hl
                have cut330 : ∀ (n330 : Nat), ∀ (x10 : Int32) (i10 : Int) (_ : x10.toInt = i10) (x11 : Int32) (i11 : Int) (_ : x11.toInt = i11), (E - i11).toNat < n330 → (i10 = 1) → (A < i11 ∧ i11 ≤ E) → ∀ (H : Heap) (locs : List Loc), SFP G H z (s_mend σ t k o F) → va_S (iv z 112) s.heap H locs → ∀ ls : Array Slot, lv_has ls 12 [(0, .ref z), (1, .int xt), (2, .int xk), (3, .int xo), (4, .int z1), (5, .int z6), (6, .int z8), (7, .int z10), (8, .int z14), (9, .int z19), (10, .int x10), (11, .int x11)] → W p l e rmL_isMendSo s m ([.ref z, .int xt, .int xk, .int xo] : List Value).toArray below meth c H locs 0 0 (MQ below (zW (fun v => v.toInt = (1 : Int)) (fun H => ∃ n9 : FD, SFP G H z n9 ∧ (fdX n9 ∧ a_station σ t 11 ≤ a_station n9 t 11)) (iv z 112)) ([.ref z, .int xt, .int xk, .int xo] : List Value).toArray s 0 0 (iv z 112)) (F0 m 330 ls []) := by
                  intro n330
                  induction n330 with
                  | zero =>
                    intro x10 i10 hx10 x11 i11 hx11 hmu330 hi330_0 hi330_1 H locs hF hS ls hl
                    exact absurd hmu330 (Nat.not_lt_zero _)
                  | succ n330 ih330 =>
                    intro x10 i10 hx10 x11 i11 hx11 hmu330 hi330_0 hi330_1 H locs hF hS ls hl
                    try clear e2
                    try clear e3
                    try clear e4
                    try clear e5
                    try clear e7
                    try clear e9
                    try clear e11
                    try clear e12
                    try clear e13
                    try clear e15
                    try clear e16
                    try clear e17
                    try clear e18
                    try clear e20
                    try clear e21
                    try clear e22
                    try clear e23
                    try clear e24
                    try clear e25
                    try clear e26
                    try clear e27
                    try clear e28
                    refine lv_iload hx hb dL_isMendSo_330 (lv_at hl 11 rfl) ?_
                    refine lv_iload hx hb dL_isMendSo_332 (lv_at hl 7 rfl) ?_
                    refine z_icmp_ge (tgt := 409) hx hb hx11 e10 dL_isMendSo_334 (by decide) (fun c_29 => ?_) (fun c_29 => ?_)
                    · refine lv_iload hx hb dL_isMendSo_409 (lv_at hl 10 rfl) ?_
                      exact z_rbw (v := x10) hx hb hr hlocks (zi_nar1 (show x10.toInt = 1 by omega)) (show x10.toInt = (1 : Int) from (by first | rfl | omega)) ⟨_, hF, (hp6 ())⟩ hS dL_isMendSo_411
                    · have hmh := hp7 i11 (by omega) (by omega)
                      simp only [hrt2, hro2] at hmh
                      have hmm := mul_b (a := mb - ma) (b := i11 - A) (A := 400000) (B := 120) (by omega) (by omega)
                      refine lv_iload hx hb dL_isMendSo_337 (lv_at hl 10 rfl) ?_
                      refine z_if_eq (tgt := 400) hx hb hx10 dL_isMendSo_339 (by decide) (fun c_30 => ?_) (fun c_30 => ?_)
                      · omega
                      · refine lv_aload_n hx hb dL_isMendSo_342 rfl (lv_at hl 0 rfl) ?_
                        refine lv_iload_n hx hb dL_isMendSo_343 rfl (lv_at hl 1 rfl) ?_
                        refine lv_iload hx hb dL_isMendSo_344 (lv_at hl 11 rfl) ?_
                        refine lv_iconst (v := (4 : Int32)) hx hb dL_isMendSo_346 (by decide) ?_
                        refine z_cV (As := [.int xt, .int x11, .int (4 : Int32)]) (rest := []) ⟨hx, hb, hml, hown, hts⟩ (kX4_hour l G z (s_mend σ t k o F) xt t e_xt x11 i11 hx11 (4 : Int32) (4 : Int) kI_4 hok2) (cwV 3 hts gL_isMendSo_X4_hour rfl rfl rfl hyX4_hour ⟨Nat.le_of_ble_eq_true rfl, Nat.le_of_ble_eq_true rfl⟩) hK hF hF.1 rfl rfl hl.1 rfl (Nat.le_of_ble_eq_true rfl) dL_isMendSo_347 ⟨Nat.zero_le _, Nat.zero_le _⟩ (fun z31 e31 => ?_)
                        replace e31 : z31.toInt = a_hour (s_mend σ t k o F) t i11 (4 : Int) := e31
                        replace e31 : z31.toInt = rt2 i11 (4 : Int) := by rw [e31]; exact hrt2 _ _
                        refine lv_iconst (v := (2 : Int32)) hx hb dL_isMendSo_350 (by decide) ?_
                        refine z_icmp_ne (tgt := 400) hx hb e31 kI_2 dL_isMendSo_351 (by decide) (fun c_32 => ?_) (fun c_32 => ?_)
                        · omega
                        · refine lv_aload_n hx hb dL_isMendSo_354 rfl (lv_at hl 0 rfl) ?_
                          refine lv_iload_n hx hb dL_isMendSo_355 rfl (lv_at hl 1 rfl) ?_
                          refine lv_iload hx hb dL_isMendSo_356 (lv_at hl 11 rfl) ?_
                          refine lv_iconst (v := (2 : Int32)) hx hb dL_isMendSo_358 (by decide) ?_
                          refine z_cV (As := [.int xt, .int x11, .int (2 : Int32)]) (rest := []) ⟨hx, hb, hml, hown, hts⟩ (kX4_hour l G z (s_mend σ t k o F) xt t e_xt x11 i11 hx11 (2 : Int32) (2 : Int) kI_2 hok2) (cwV 3 hts gL_isMendSo_X4_hour rfl rfl rfl hyX4_hour ⟨Nat.le_of_ble_eq_true rfl, Nat.le_of_ble_eq_true rfl⟩) hK hF hF.1 rfl rfl hl.1 rfl (Nat.le_of_ble_eq_true rfl) dL_isMendSo_359 ⟨Nat.zero_le _, Nat.zero_le _⟩ (fun z33 e33 => ?_)
                          replace e33 : z33.toInt = a_hour (s_mend σ t k o F) t i11 (2 : Int) := e33
                          replace e33 : z33.toInt = rt2 i11 (2 : Int) := by rw [e33]; exact hrt2 _ _
                          refine lv_aload_n hx hb dL_isMendSo_362 rfl (lv_at hl 0 rfl) ?_
                          refine lv_iload_n hx hb dL_isMendSo_363 rfl (lv_at hl 3 rfl) ?_
                          refine lv_iload hx hb dL_isMendSo_364 (lv_at hl 11 rfl) ?_
                          refine lv_iload hx hb dL_isMendSo_366 (lv_at hl 5 rfl) ?_
                          refine z_iadd hx hb hx11 e6 dL_isMendSo_368 (by omega) (fun z34 e34 => ?_)
                          refine lv_iconst (v := (1 : Int32)) hx hb dL_isMendSo_369 (by decide) ?_
                          refine z_cV (As := [.int xo, .int z34, .int (1 : Int32)]) (rest := [.int z33]) ⟨hx, hb, hml, hown, hts⟩ (kX4_hour l G z (s_mend σ t k o F) xo o e_xo z34 (i11 + F) e34 (1 : Int32) (1 : Int) kI_1 hok2) (cwV 3 hts gL_isMendSo_X4_hour rfl rfl rfl hyX4_hour ⟨Nat.le_of_ble_eq_true rfl, Nat.le_of_ble_eq_true rfl⟩) hK hF hF.1 rfl rfl hl.1 rfl (Nat.le_of_ble_eq_true rfl) dL_isMendSo_370 ⟨Nat.zero_le _, Nat.zero_le _⟩ (fun z35 e35 => ?_)
                          replace e35 : z35.toInt = a_hour (s_mend σ t k o F) o (i11 + F) (1 : Int) := e35
                          replace e35 : z35.toInt = ro2 (i11 + F) (1 : Int) := by rw [e35]; exact hro2 _ _
                          refine lv_iload hx hb dL_isMendSo_373 (lv_at hl 8 rfl) ?_
                          refine z_iadd hx hb e35 e14 dL_isMendSo_375 (by omega) (fun z36 e36 => ?_)
                          refine lv_iload hx hb dL_isMendSo_376 (lv_at hl 9 rfl) ?_
                          refine lv_iload hx hb dL_isMendSo_378 (lv_at hl 11 rfl) ?_
                          refine lv_iload hx hb dL_isMendSo_380 (lv_at hl 6 rfl) ?_
                          refine z_isub hx hb hx11 e8 dL_isMendSo_382 (by omega) (fun z37 e37 => ?_)
                          refine z_imul hx hb e19 e37 dL_isMendSo_383 (by omega) (fun z38 e38 => ?_)
                          refine lv_iload hx hb dL_isMendSo_384 (lv_at hl 7 rfl) ?_
                          refine lv_iload hx hb dL_isMendSo_386 (lv_at hl 6 rfl) ?_
                          refine z_isub hx hb e10 e8 dL_isMendSo_388 (by omega) (fun z39 e39 => ?_)
                          refine z_cS (As := [.int z38, .int z39]) (rest := [.int z36, .int z33]) ⟨hx, hb, hml, hown, hts⟩ (kL_floor l G z38 ((mb - ma) * (i11 - A)) e38 z39 (E - A) e39 (by first | assumption | omega) (by first | assumption | omega)) (va_cwS 2 hts gL_isMendSo_L_floor rfl rfl rfl hyL_floor ⟨Nat.le_of_ble_eq_true rfl, Nat.le_of_ble_eq_true rfl⟩) hK trivial rfl hl.1 rfl (Nat.le_of_ble_eq_true rfl) dL_isMendSo_389 ⟨Nat.zero_le _, Nat.zero_le _⟩ (fun z40 e40 => ?_)
                          replace e40 : z40.toInt = ((mb - ma) * (i11 - A)) / (E - A) := e40
                          refine z_iadd hx hb e36 e40 dL_isMendSo_392 (by omega) (fun z41 e41 => ?_)
                          refine z_icmp_ne (tgt := 400) hx hb e33 e41 dL_isMendSo_393 (by decide) (fun c_42 => ?_) (fun c_42 => ?_)
                          · omega
                          · refine lv_iconst (v := (1 : Int32)) hx hb dL_isMendSo_396 (by decide) ?_
                            refine lv_goto (tgt := 401) hx hb dL_isMendSo_397 (by decide) ?_
                            refine lv_istore hx hb dL_isMendSo_401 hl (by decide) rfl (fun ls hl => ?_)
                            have hl : lv_has ls 12 [(10, .int (1 : Int32)), (0, .ref z), (1, .int xt), (2, .int xk), (3, .int xo), (4, .int z1), (5, .int z6), (6, .int z8), (7, .int z10), (8, .int z14), (9, .int z19), (11, .int x11)] := hl
                            refine z_iinc (k := 11) hx hb dL_isMendSo_403 hl rfl hx11 (show (Int32.ofInt 1).toInt = (1 : Int) from rfl) (by omega) (by decide) (fun z43 e43 ls hl => ?_)
                            have hl : lv_has ls 12 [(11, .int z43), (10, .int (1 : Int32)), (0, .ref z), (1, .int xt), (2, .int xk), (3, .int xo), (4, .int z1), (5, .int z6), (6, .int z8), (7, .int z10), (8, .int z14), (9, .int z19)] := hl
                            refine lv_goto (tgt := 330) hx hb dL_isMendSo_406 (by decide) ?_
                            exact ih330 (1 : Int32) (1 : Int) kI_1 z43 (i11 + (1 : Int)) e43 (by omega) (by omega) (by omega) _ _ hF hS ls (lv_sub hl [2, 3, 4, 5, 6, 7, 8, 9, 10, 11, 1, 0] rfl)
                exact cut330 (((E - (A + (1 : Int))).toNat) + 1) (1 : Int32) (1 : Int) kI_1 z28 (A + (1 : Int)) e28 (Nat.lt_succ_self _) (by omega) (by omega) _ _ hF hS ls (lv_sub hl [7, 8, 9, 10, 11, 6, 5, 4, 3, 2, 1, 0] rfl)
          · refine lv_iload hx hb dL_isMendSo_192 (lv_at hl 4 rfl) ?_
            refine lv_bipush (v := (-5 : Int32)) hx hb dL_isMendSo_194 (by decide) ?_
            refine z_icmp_ne (tgt := 203) hx hb e1 kI_m5 dL_isMendSo_196 (by decide) (fun c_44 => ?_) (fun c_44 => ?_)
            · omega
            · refine lv_iconst (v := (1 : Int32)) hx hb dL_isMendSo_199 (by decide) ?_
              refine lv_goto (tgt := 204) hx hb dL_isMendSo_200 (by decide) ?_
              exact z_rbw (v := (1 : Int32)) hx hb hr hlocks rfl (show (1 : Int32).toInt = (1 : Int) from (by first | rfl | omega)) ⟨_, hF, ⟨hfx, Int.le_refl _⟩⟩ hS dL_isMendSo_204
        · have hms := ms_all hmc (hin ()) (f := i5) (by omega)
          simp only [hmis, hbp ()] at hms
          refine lv_aload_n hx hb dL_isMendSo_56 rfl (lv_at hl 0 rfl) ?_
          refine lv_iload_n hx hb dL_isMendSo_57 rfl (lv_at hl 1 rfl) ?_
          refine lv_iload_n hx hb dL_isMendSo_58 rfl (lv_at hl 2 rfl) ?_
          refine lv_iload_n hx hb dL_isMendSo_59 rfl (lv_at hl 3 rfl) ?_
          refine lv_iload hx hb dL_isMendSo_60 (lv_at hl 5 rfl) ?_
          refine z_cV (As := [.int xt, .int xk, .int xo, .int x5]) (rest := []) ⟨hx, hb, hml, hown, hts⟩ (kX4_misfit l G z σ xt t e_xt xk k e_xk xo o e_xo x5 i5 hx5 hok) (cwV 4 hts gL_isMendSo_X4_misfit rfl rfl rfl hyX4_misfit ⟨Nat.le_of_ble_eq_true rfl, Nat.le_of_ble_eq_true rfl⟩) hK hF hF.1 rfl rfl hl.1 rfl (Nat.le_of_ble_eq_true rfl) dL_isMendSo_62 ⟨Nat.zero_le _, Nat.zero_le _⟩ (fun z45 e45 => ?_)
          replace e45 : z45.toInt = a_misfit σ t k o i5 := e45
          replace e45 : z45.toInt = mis i5 := by rw [e45]; exact hmis _
          refine lv_istore hx hb dL_isMendSo_65 hl (by decide) rfl (fun ls hl => ?_)
          have hl : lv_has ls 12 [(6, .int z45), (0, .ref z), (1, .int xt), (2, .int xk), (3, .int xo), (4, .int z1), (5, .int x5)] := hl
          refine lv_iload hx hb dL_isMendSo_67 (lv_at hl 6 rfl) ?_
          refine z_if_ge (tgt := 78) hx hb hx5 dL_isMendSo_69 (by decide) (fun c_46 => ?_) (fun c_46 => ?_)
          · refine lv_iload hx hb dL_isMendSo_78 (lv_at hl 6 rfl) ?_
            refine lv_istore hx hb dL_isMendSo_80 hl (by decide) rfl (fun ls hl => ?_)
            have hl : lv_has ls 12 [(7, .int x5), (6, .int z45), (0, .ref z), (1, .int xt), (2, .int xk), (3, .int xo), (4, .int z1), (5, .int x5)] := hl
            refine lv_iload hx hb dL_isMendSo_82 (lv_at hl 6 rfl) ?_
            refine lv_bipush (v := (100 : Int32)) hx hb dL_isMendSo_84 (by decide) ?_
            refine z_icmp_ge (tgt := 97) hx hb e1 kI_100 dL_isMendSo_86 (by decide) (fun c_47 => ?_) (fun c_47 => ?_)
            · refine lv_iload hx hb dL_isMendSo_97 (lv_at hl 6 rfl) ?_
              refine lv_bipush (v := (100 : Int32)) hx hb dL_isMendSo_99 (by decide) ?_
              refine z_isub hx hb e1 kI_100 dL_isMendSo_101 (by omega) (fun z48 e48 => ?_)
              refine lv_istore hx hb dL_isMendSo_102 hl (by decide) rfl (fun ls hl => ?_)
              have hl : lv_has ls 12 [(8, .int z48), (7, .int x5), (6, .int z45), (0, .ref z), (1, .int xt), (2, .int xk), (3, .int xo), (4, .int z1), (5, .int x5)] := hl
              refine lv_iload hx hb dL_isMendSo_104 (lv_at hl 2 rfl) ?_
              refine z_if_lt (tgt := 157) hx hb e45 dL_isMendSo_106 (by decide) (fun c_49 => ?_) (fun c_49 => ?_)
              · refine lv_iload hx hb dL_isMendSo_157 (lv_at hl 2 rfl) ?_
                refine z_if_ge (tgt := 181) hx hb e45 dL_isMendSo_159 (by decide) (fun c_50 => ?_) (fun c_50 => ?_)
                · omega
                · refine lv_iload hx hb dL_isMendSo_162 (lv_at hl 2 rfl) ?_
                  refine lv_bipush (v := (-5 : Int32)) hx hb dL_isMendSo_164 (by decide) ?_
                  refine z_icmp_ne (tgt := 179) hx hb e45 kI_m5 dL_isMendSo_166 (by decide) (fun c_51 => ?_) (fun c_51 => ?_)
                  · omega
                  · refine lv_iload hx hb dL_isMendSo_169 (lv_at hl 8 rfl) ?_
                    refine lv_iload hx hb dL_isMendSo_171 (lv_at hl 7 rfl) ?_
                    refine lv_bipush (v := (100 : Int32)) hx hb dL_isMendSo_173 (by decide) ?_
                    refine z_isub hx hb e1 kI_100 dL_isMendSo_175 (by omega) (fun z52 e52 => ?_)
                    refine z_icmp_ne (tgt := 181) hx hb hx5 e52 dL_isMendSo_176 (by decide) (fun c_53 => ?_) (fun c_53 => ?_)
                    · refine z_iinc (k := 8) hx hb dL_isMendSo_181 hl rfl hx5 (show (Int32.ofInt 1).toInt = (1 : Int) from rfl) (by omega) (by decide) (fun z54 e54 ls hl => ?_)
                      have hl : lv_has ls 12 [(5, .int z54), (8, .int z48), (7, .int x5), (6, .int z45), (0, .ref z), (1, .int xt), (2, .int xk), (3, .int xo), (4, .int z1)] := hl
                      refine lv_goto (tgt := 49) hx hb dL_isMendSo_184 (by decide) ?_
                      exact ih49 z54 (i5 + (1 : Int)) e54 (by omega) (by omega) ls (lv_sub hl [4, 5, 6, 7, 8, 0] rfl)
                    · omega
              · refine lv_iload hx hb dL_isMendSo_109 (lv_at hl 7 rfl) ?_
                refine z_if_lt (tgt := 155) hx hb e1 dL_isMendSo_111 (by decide) (fun c_55 => ?_) (fun c_55 => ?_)
                · omega
                · refine lv_aload_n hx hb dL_isMendSo_114 rfl (lv_at hl 3 rfl) ?_
                  refine lv_iload_n hx hb dL_isMendSo_115 rfl (lv_at hl 4 rfl) ?_
                  refine lv_iload_n hx hb dL_isMendSo_116 rfl (lv_at hl 5 rfl) ?_
                  refine lv_iload_n hx hb dL_isMendSo_117 rfl (lv_at hl 6 rfl) ?_
                  refine lv_iload hx hb dL_isMendSo_118 (lv_at hl 7 rfl) ?_
                  refine lv_bipush (v := (100 : Int32)) hx hb dL_isMendSo_120 (by decide) ?_
                  refine z_isub hx hb e1 kI_100 dL_isMendSo_122 (by omega) (fun z56 e56 => ?_)
                  refine z_cV (As := [.int xt, .int xk, .int xo, .int z56]) (rest := []) ⟨hx, hb, hml, hown, hts⟩ (kX4_misfit l G z σ xt t e_xt xk k e_xk xo o e_xo z56 ((bpf ()) - (100 : Int)) e56 hok) (cwV 4 hts gL_isMendSo_X4_misfit rfl rfl rfl hyX4_misfit ⟨Nat.le_of_ble_eq_true rfl, Nat.le_of_ble_eq_true rfl⟩) hK hF hF.1 rfl rfl hl.1 rfl (Nat.le_of_ble_eq_true rfl) dL_isMendSo_123 ⟨Nat.zero_le _, Nat.zero_le _⟩ (fun z57 e57 => ?_)
                  replace e57 : z57.toInt = a_misfit σ t k o ((bpf ()) - (100 : Int)) := e57
                  replace e57 : z57.toInt = mis (bpf () - (100 : Int)) := by rw [e57]; exact hmis _
                  refine lv_iload hx hb dL_isMendSo_126 (lv_at hl 2 rfl) ?_
                  refine z_icmp_gt (tgt := 155) hx hb e57 e45 dL_isMendSo_128 (by decide) (fun c_58 => ?_) (fun c_58 => ?_)
                  · omega
                  · refine lv_aload_n hx hb dL_isMendSo_131 rfl (lv_at hl 3 rfl) ?_
                    refine lv_iload_n hx hb dL_isMendSo_132 rfl (lv_at hl 4 rfl) ?_
                    refine lv_iload_n hx hb dL_isMendSo_133 rfl (lv_at hl 5 rfl) ?_
                    refine lv_iload_n hx hb dL_isMendSo_134 rfl (lv_at hl 6 rfl) ?_
                    refine lv_iload hx hb dL_isMendSo_135 (lv_at hl 7 rfl) ?_
                    refine lv_bipush (v := (100 : Int32)) hx hb dL_isMendSo_137 (by decide) ?_
                    refine z_isub hx hb e1 kI_100 dL_isMendSo_139 (by omega) (fun z59 e59 => ?_)
                    refine z_cV (As := [.int xt, .int xk, .int xo, .int z59]) (rest := []) ⟨hx, hb, hml, hown, hts⟩ (kX4_misfit l G z σ xt t e_xt xk k e_xk xo o e_xo z59 ((bpf ()) - (100 : Int)) e59 hok) (cwV 4 hts gL_isMendSo_X4_misfit rfl rfl rfl hyX4_misfit ⟨Nat.le_of_ble_eq_true rfl, Nat.le_of_ble_eq_true rfl⟩) hK hF hF.1 rfl rfl hl.1 rfl (Nat.le_of_ble_eq_true rfl) dL_isMendSo_140 ⟨Nat.zero_le _, Nat.zero_le _⟩ (fun z60 e60 => ?_)
                    replace e60 : z60.toInt = a_misfit σ t k o ((bpf ()) - (100 : Int)) := e60
                    replace e60 : z60.toInt = mis (bpf () - (100 : Int)) := by rw [e60]; exact hmis _
                    refine lv_iload hx hb dL_isMendSo_143 (lv_at hl 2 rfl) ?_
                    refine z_icmp_ne (tgt := 157) hx hb e60 e45 dL_isMendSo_145 (by decide) (fun c_61 => ?_) (fun c_61 => ?_)
                    · refine lv_iload hx hb dL_isMendSo_157 (lv_at hl 2 rfl) ?_
                      refine z_if_ge (tgt := 181) hx hb e45 dL_isMendSo_159 (by decide) (fun c_62 => ?_) (fun c_62 => ?_)
                      · refine z_iinc (k := 8) hx hb dL_isMendSo_181 hl rfl hx5 (show (Int32.ofInt 1).toInt = (1 : Int) from rfl) (by omega) (by decide) (fun z63 e63 ls hl => ?_)
                        have hl : lv_has ls 12 [(5, .int z63), (8, .int z48), (7, .int x5), (6, .int z45), (0, .ref z), (1, .int xt), (2, .int xk), (3, .int xo), (4, .int z1)] := hl
                        refine lv_goto (tgt := 49) hx hb dL_isMendSo_184 (by decide) ?_
                        exact ih49 z63 (i5 + (1 : Int)) e63 (by omega) (by omega) ls (lv_sub hl [4, 5, 6, 7, 8, 0] rfl)
                      · omega
                    · refine lv_iload hx hb dL_isMendSo_148 (lv_at hl 0 rfl) ?_
                      refine lv_iload hx hb dL_isMendSo_150 (lv_at hl 1 rfl) ?_
                      refine z_icmp_le (tgt := 157) hx hb e48 hx5 dL_isMendSo_152 (by decide) (fun c_64 => ?_) (fun c_64 => ?_)
                      · refine lv_iload hx hb dL_isMendSo_157 (lv_at hl 2 rfl) ?_
                        refine z_if_ge (tgt := 181) hx hb e45 dL_isMendSo_159 (by decide) (fun c_65 => ?_) (fun c_65 => ?_)
                        · refine z_iinc (k := 8) hx hb dL_isMendSo_181 hl rfl hx5 (show (Int32.ofInt 1).toInt = (1 : Int) from rfl) (by omega) (by decide) (fun z66 e66 ls hl => ?_)
                          have hl : lv_has ls 12 [(5, .int z66), (8, .int z48), (7, .int x5), (6, .int z45), (0, .ref z), (1, .int xt), (2, .int xk), (3, .int xo), (4, .int z1)] := hl
                          refine lv_goto (tgt := 49) hx hb dL_isMendSo_184 (by decide) ?_
                          exact ih49 z66 (i5 + (1 : Int)) e66 (by omega) (by omega) ls (lv_sub hl [4, 5, 6, 7, 8, 0] rfl)
                        · omega
                      · omega
            · refine lv_bipush (v := (100 : Int32)) hx hb dL_isMendSo_89 (by decide) ?_
              refine lv_iload hx hb dL_isMendSo_91 (lv_at hl 6 rfl) ?_
              refine z_isub hx hb kI_100 e1 dL_isMendSo_93 (by omega) (fun z67 e67 => ?_)
              refine lv_goto (tgt := 102) hx hb dL_isMendSo_94 (by decide) ?_
              refine lv_istore hx hb dL_isMendSo_102 hl (by decide) rfl (fun ls hl => ?_)
              have hl : lv_has ls 12 [(8, .int z67), (7, .int x5), (6, .int z45), (0, .ref z), (1, .int xt), (2, .int xk), (3, .int xo), (4, .int z1), (5, .int x5)] := hl
              refine lv_iload hx hb dL_isMendSo_104 (lv_at hl 2 rfl) ?_
              refine z_if_lt (tgt := 157) hx hb e45 dL_isMendSo_106 (by decide) (fun c_68 => ?_) (fun c_68 => ?_)
              · refine lv_iload hx hb dL_isMendSo_157 (lv_at hl 2 rfl) ?_
                refine z_if_ge (tgt := 181) hx hb e45 dL_isMendSo_159 (by decide) (fun c_69 => ?_) (fun c_69 => ?_)
                · omega
                · refine lv_iload hx hb dL_isMendSo_162 (lv_at hl 2 rfl) ?_
                  refine lv_bipush (v := (-5 : Int32)) hx hb dL_isMendSo_164 (by decide) ?_
                  refine z_icmp_ne (tgt := 179) hx hb e45 kI_m5 dL_isMendSo_166 (by decide) (fun c_70 => ?_) (fun c_70 => ?_)
                  · omega
                  · refine lv_iload hx hb dL_isMendSo_169 (lv_at hl 8 rfl) ?_
                    refine lv_iload hx hb dL_isMendSo_171 (lv_at hl 7 rfl) ?_
                    refine lv_bipush (v := (100 : Int32)) hx hb dL_isMendSo_173 (by decide) ?_
                    refine z_isub hx hb e1 kI_100 dL_isMendSo_175 (by omega) (fun z71 e71 => ?_)
                    refine z_icmp_ne (tgt := 181) hx hb hx5 e71 dL_isMendSo_176 (by decide) (fun c_72 => ?_) (fun c_72 => ?_)
                    · refine z_iinc (k := 8) hx hb dL_isMendSo_181 hl rfl hx5 (show (Int32.ofInt 1).toInt = (1 : Int) from rfl) (by omega) (by decide) (fun z73 e73 ls hl => ?_)
                      have hl : lv_has ls 12 [(5, .int z73), (8, .int z67), (7, .int x5), (6, .int z45), (0, .ref z), (1, .int xt), (2, .int xk), (3, .int xo), (4, .int z1)] := hl
                      refine lv_goto (tgt := 49) hx hb dL_isMendSo_184 (by decide) ?_
                      exact ih49 z73 (i5 + (1 : Int)) e73 (by omega) (by omega) ls (lv_sub hl [4, 5, 6, 7, 8, 0] rfl)
                    · omega
              · refine lv_iload hx hb dL_isMendSo_109 (lv_at hl 7 rfl) ?_
                refine z_if_lt (tgt := 155) hx hb e1 dL_isMendSo_111 (by decide) (fun c_74 => ?_) (fun c_74 => ?_)
                · omega
                · refine lv_aload_n hx hb dL_isMendSo_114 rfl (lv_at hl 3 rfl) ?_
                  refine lv_iload_n hx hb dL_isMendSo_115 rfl (lv_at hl 4 rfl) ?_
                  refine lv_iload_n hx hb dL_isMendSo_116 rfl (lv_at hl 5 rfl) ?_
                  refine lv_iload_n hx hb dL_isMendSo_117 rfl (lv_at hl 6 rfl) ?_
                  refine lv_iload hx hb dL_isMendSo_118 (lv_at hl 7 rfl) ?_
                  refine lv_bipush (v := (100 : Int32)) hx hb dL_isMendSo_120 (by decide) ?_
                  refine z_isub hx hb e1 kI_100 dL_isMendSo_122 (by omega) (fun z75 e75 => ?_)
                  refine z_cV (As := [.int xt, .int xk, .int xo, .int z75]) (rest := []) ⟨hx, hb, hml, hown, hts⟩ (kX4_misfit l G z σ xt t e_xt xk k e_xk xo o e_xo z75 ((bpf ()) - (100 : Int)) e75 hok) (cwV 4 hts gL_isMendSo_X4_misfit rfl rfl rfl hyX4_misfit ⟨Nat.le_of_ble_eq_true rfl, Nat.le_of_ble_eq_true rfl⟩) hK hF hF.1 rfl rfl hl.1 rfl (Nat.le_of_ble_eq_true rfl) dL_isMendSo_123 ⟨Nat.zero_le _, Nat.zero_le _⟩ (fun z76 e76 => ?_)
                  replace e76 : z76.toInt = a_misfit σ t k o ((bpf ()) - (100 : Int)) := e76
                  replace e76 : z76.toInt = mis (bpf () - (100 : Int)) := by rw [e76]; exact hmis _
                  refine lv_iload hx hb dL_isMendSo_126 (lv_at hl 2 rfl) ?_
                  refine z_icmp_gt (tgt := 155) hx hb e76 e45 dL_isMendSo_128 (by decide) (fun c_77 => ?_) (fun c_77 => ?_)
                  · omega
                  · refine lv_aload_n hx hb dL_isMendSo_131 rfl (lv_at hl 3 rfl) ?_
                    refine lv_iload_n hx hb dL_isMendSo_132 rfl (lv_at hl 4 rfl) ?_
                    refine lv_iload_n hx hb dL_isMendSo_133 rfl (lv_at hl 5 rfl) ?_
                    refine lv_iload_n hx hb dL_isMendSo_134 rfl (lv_at hl 6 rfl) ?_
                    refine lv_iload hx hb dL_isMendSo_135 (lv_at hl 7 rfl) ?_
                    refine lv_bipush (v := (100 : Int32)) hx hb dL_isMendSo_137 (by decide) ?_
                    refine z_isub hx hb e1 kI_100 dL_isMendSo_139 (by omega) (fun z78 e78 => ?_)
                    refine z_cV (As := [.int xt, .int xk, .int xo, .int z78]) (rest := []) ⟨hx, hb, hml, hown, hts⟩ (kX4_misfit l G z σ xt t e_xt xk k e_xk xo o e_xo z78 ((bpf ()) - (100 : Int)) e78 hok) (cwV 4 hts gL_isMendSo_X4_misfit rfl rfl rfl hyX4_misfit ⟨Nat.le_of_ble_eq_true rfl, Nat.le_of_ble_eq_true rfl⟩) hK hF hF.1 rfl rfl hl.1 rfl (Nat.le_of_ble_eq_true rfl) dL_isMendSo_140 ⟨Nat.zero_le _, Nat.zero_le _⟩ (fun z79 e79 => ?_)
                    replace e79 : z79.toInt = a_misfit σ t k o ((bpf ()) - (100 : Int)) := e79
                    replace e79 : z79.toInt = mis (bpf () - (100 : Int)) := by rw [e79]; exact hmis _
                    refine lv_iload hx hb dL_isMendSo_143 (lv_at hl 2 rfl) ?_
                    refine z_icmp_ne (tgt := 157) hx hb e79 e45 dL_isMendSo_145 (by decide) (fun c_80 => ?_) (fun c_80 => ?_)
                    · refine lv_iload hx hb dL_isMendSo_157 (lv_at hl 2 rfl) ?_
                      refine z_if_ge (tgt := 181) hx hb e45 dL_isMendSo_159 (by decide) (fun c_81 => ?_) (fun c_81 => ?_)
                      · refine z_iinc (k := 8) hx hb dL_isMendSo_181 hl rfl hx5 (show (Int32.ofInt 1).toInt = (1 : Int) from rfl) (by omega) (by decide) (fun z82 e82 ls hl => ?_)
                        have hl : lv_has ls 12 [(5, .int z82), (8, .int z67), (7, .int x5), (6, .int z45), (0, .ref z), (1, .int xt), (2, .int xk), (3, .int xo), (4, .int z1)] := hl
                        refine lv_goto (tgt := 49) hx hb dL_isMendSo_184 (by decide) ?_
                        exact ih49 z82 (i5 + (1 : Int)) e82 (by omega) (by omega) ls (lv_sub hl [4, 5, 6, 7, 8, 0] rfl)
                      · omega
                    · refine lv_iload hx hb dL_isMendSo_148 (lv_at hl 0 rfl) ?_
                      refine lv_iload hx hb dL_isMendSo_150 (lv_at hl 1 rfl) ?_
                      refine z_icmp_le (tgt := 157) hx hb e67 hx5 dL_isMendSo_152 (by decide) (fun c_83 => ?_) (fun c_83 => ?_)
                      · refine lv_iload hx hb dL_isMendSo_157 (lv_at hl 2 rfl) ?_
                        refine z_if_ge (tgt := 181) hx hb e45 dL_isMendSo_159 (by decide) (fun c_84 => ?_) (fun c_84 => ?_)
                        · refine z_iinc (k := 8) hx hb dL_isMendSo_181 hl rfl hx5 (show (Int32.ofInt 1).toInt = (1 : Int) from rfl) (by omega) (by decide) (fun z85 e85 ls hl => ?_)
                          have hl : lv_has ls 12 [(5, .int z85), (8, .int z67), (7, .int x5), (6, .int z45), (0, .ref z), (1, .int xt), (2, .int xk), (3, .int xo), (4, .int z1)] := hl
                          refine lv_goto (tgt := 49) hx hb dL_isMendSo_184 (by decide) ?_
                          exact ih49 z85 (i5 + (1 : Int)) e85 (by omega) (by omega) ls (lv_sub hl [4, 5, 6, 7, 8, 0] rfl)
                        · omega
                      · omega
          · refine lv_iload hx hb dL_isMendSo_72 (lv_at hl 6 rfl) ?_
            refine z_ineg hx hb hx5 dL_isMendSo_74 (by omega) (fun z86 e86 => ?_)
            refine lv_goto (tgt := 80) hx hb dL_isMendSo_75 (by decide) ?_
            refine lv_istore hx hb dL_isMendSo_80 hl (by decide) rfl (fun ls hl => ?_)
            have hl : lv_has ls 12 [(7, .int z86), (6, .int z45), (0, .ref z), (1, .int xt), (2, .int xk), (3, .int xo), (4, .int z1), (5, .int x5)] := hl
            refine lv_iload hx hb dL_isMendSo_82 (lv_at hl 6 rfl) ?_
            refine lv_bipush (v := (100 : Int32)) hx hb dL_isMendSo_84 (by decide) ?_
            refine z_icmp_ge (tgt := 97) hx hb e1 kI_100 dL_isMendSo_86 (by decide) (fun c_87 => ?_) (fun c_87 => ?_)
            · refine lv_iload hx hb dL_isMendSo_97 (lv_at hl 6 rfl) ?_
              refine lv_bipush (v := (100 : Int32)) hx hb dL_isMendSo_99 (by decide) ?_
              refine z_isub hx hb e1 kI_100 dL_isMendSo_101 (by omega) (fun z88 e88 => ?_)
              refine lv_istore hx hb dL_isMendSo_102 hl (by decide) rfl (fun ls hl => ?_)
              have hl : lv_has ls 12 [(8, .int z88), (7, .int z86), (6, .int z45), (0, .ref z), (1, .int xt), (2, .int xk), (3, .int xo), (4, .int z1), (5, .int x5)] := hl
              refine lv_iload hx hb dL_isMendSo_104 (lv_at hl 2 rfl) ?_
              refine z_if_lt (tgt := 157) hx hb e45 dL_isMendSo_106 (by decide) (fun c_89 => ?_) (fun c_89 => ?_)
              · refine lv_iload hx hb dL_isMendSo_157 (lv_at hl 2 rfl) ?_
                refine z_if_ge (tgt := 181) hx hb e45 dL_isMendSo_159 (by decide) (fun c_90 => ?_) (fun c_90 => ?_)
                · omega
                · refine lv_iload hx hb dL_isMendSo_162 (lv_at hl 2 rfl) ?_
                  refine lv_bipush (v := (-5 : Int32)) hx hb dL_isMendSo_164 (by decide) ?_
                  refine z_icmp_ne (tgt := 179) hx hb e45 kI_m5 dL_isMendSo_166 (by decide) (fun c_91 => ?_) (fun c_91 => ?_)
                  · omega
                  · refine lv_iload hx hb dL_isMendSo_169 (lv_at hl 8 rfl) ?_
                    refine lv_iload hx hb dL_isMendSo_171 (lv_at hl 7 rfl) ?_
                    refine lv_bipush (v := (100 : Int32)) hx hb dL_isMendSo_173 (by decide) ?_
                    refine z_isub hx hb e1 kI_100 dL_isMendSo_175 (by omega) (fun z92 e92 => ?_)
                    refine z_icmp_ne (tgt := 181) hx hb hx5 e92 dL_isMendSo_176 (by decide) (fun c_93 => ?_) (fun c_93 => ?_)
                    · refine z_iinc (k := 8) hx hb dL_isMendSo_181 hl rfl hx5 (show (Int32.ofInt 1).toInt = (1 : Int) from rfl) (by omega) (by decide) (fun z94 e94 ls hl => ?_)
                      have hl : lv_has ls 12 [(5, .int z94), (8, .int z88), (7, .int z86), (6, .int z45), (0, .ref z), (1, .int xt), (2, .int xk), (3, .int xo), (4, .int z1)] := hl
                      refine lv_goto (tgt := 49) hx hb dL_isMendSo_184 (by decide) ?_
                      exact ih49 z94 (i5 + (1 : Int)) e94 (by omega) (by omega) ls (lv_sub hl [4, 5, 6, 7, 8, 0] rfl)
                    · omega
              · refine lv_iload hx hb dL_isMendSo_109 (lv_at hl 7 rfl) ?_
                refine z_if_lt (tgt := 155) hx hb e1 dL_isMendSo_111 (by decide) (fun c_95 => ?_) (fun c_95 => ?_)
                · omega
                · refine lv_aload_n hx hb dL_isMendSo_114 rfl (lv_at hl 3 rfl) ?_
                  refine lv_iload_n hx hb dL_isMendSo_115 rfl (lv_at hl 4 rfl) ?_
                  refine lv_iload_n hx hb dL_isMendSo_116 rfl (lv_at hl 5 rfl) ?_
                  refine lv_iload_n hx hb dL_isMendSo_117 rfl (lv_at hl 6 rfl) ?_
                  refine lv_iload hx hb dL_isMendSo_118 (lv_at hl 7 rfl) ?_
                  refine lv_bipush (v := (100 : Int32)) hx hb dL_isMendSo_120 (by decide) ?_
                  refine z_isub hx hb e1 kI_100 dL_isMendSo_122 (by omega) (fun z96 e96 => ?_)
                  refine z_cV (As := [.int xt, .int xk, .int xo, .int z96]) (rest := []) ⟨hx, hb, hml, hown, hts⟩ (kX4_misfit l G z σ xt t e_xt xk k e_xk xo o e_xo z96 ((bpf ()) - (100 : Int)) e96 hok) (cwV 4 hts gL_isMendSo_X4_misfit rfl rfl rfl hyX4_misfit ⟨Nat.le_of_ble_eq_true rfl, Nat.le_of_ble_eq_true rfl⟩) hK hF hF.1 rfl rfl hl.1 rfl (Nat.le_of_ble_eq_true rfl) dL_isMendSo_123 ⟨Nat.zero_le _, Nat.zero_le _⟩ (fun z97 e97 => ?_)
                  replace e97 : z97.toInt = a_misfit σ t k o ((bpf ()) - (100 : Int)) := e97
                  replace e97 : z97.toInt = mis (bpf () - (100 : Int)) := by rw [e97]; exact hmis _
                  refine lv_iload hx hb dL_isMendSo_126 (lv_at hl 2 rfl) ?_
                  refine z_icmp_gt (tgt := 155) hx hb e97 e45 dL_isMendSo_128 (by decide) (fun c_98 => ?_) (fun c_98 => ?_)
                  · omega
                  · refine lv_aload_n hx hb dL_isMendSo_131 rfl (lv_at hl 3 rfl) ?_
                    refine lv_iload_n hx hb dL_isMendSo_132 rfl (lv_at hl 4 rfl) ?_
                    refine lv_iload_n hx hb dL_isMendSo_133 rfl (lv_at hl 5 rfl) ?_
                    refine lv_iload_n hx hb dL_isMendSo_134 rfl (lv_at hl 6 rfl) ?_
                    refine lv_iload hx hb dL_isMendSo_135 (lv_at hl 7 rfl) ?_
                    refine lv_bipush (v := (100 : Int32)) hx hb dL_isMendSo_137 (by decide) ?_
                    refine z_isub hx hb e1 kI_100 dL_isMendSo_139 (by omega) (fun z99 e99 => ?_)
                    refine z_cV (As := [.int xt, .int xk, .int xo, .int z99]) (rest := []) ⟨hx, hb, hml, hown, hts⟩ (kX4_misfit l G z σ xt t e_xt xk k e_xk xo o e_xo z99 ((bpf ()) - (100 : Int)) e99 hok) (cwV 4 hts gL_isMendSo_X4_misfit rfl rfl rfl hyX4_misfit ⟨Nat.le_of_ble_eq_true rfl, Nat.le_of_ble_eq_true rfl⟩) hK hF hF.1 rfl rfl hl.1 rfl (Nat.le_of_ble_eq_true rfl) dL_isMendSo_140 ⟨Nat.zero_le _, Nat.zero_le _⟩ (fun z100 e100 => ?_)
                    replace e100 : z100.toInt = a_misfit σ t k o ((bpf ()) - (100 : Int)) := e100
                    replace e100 : z100.toInt = mis (bpf () - (100 : Int)) := by rw [e100]; exact hmis _
                    refine lv_iload hx hb dL_isMendSo_143 (lv_at hl 2 rfl) ?_
                    refine z_icmp_ne (tgt := 157) hx hb e100 e45 dL_isMendSo_145 (by decide) (fun c_101 => ?_) (fun c_101 => ?_)
                    · refine lv_iload hx hb dL_isMendSo_157 (lv_at hl 2 rfl) ?_
                      refine z_if_ge (tgt := 181) hx hb e45 dL_isMendSo_159 (by decide) (fun c_102 => ?_) (fun c_102 => ?_)
                      · refine z_iinc (k := 8) hx hb dL_isMendSo_181 hl rfl hx5 (show (Int32.ofInt 1).toInt = (1 : Int) from rfl) (by omega) (by decide) (fun z103 e103 ls hl => ?_)
                        have hl : lv_has ls 12 [(5, .int z103), (8, .int z88), (7, .int z86), (6, .int z45), (0, .ref z), (1, .int xt), (2, .int xk), (3, .int xo), (4, .int z1)] := hl
                        refine lv_goto (tgt := 49) hx hb dL_isMendSo_184 (by decide) ?_
                        exact ih49 z103 (i5 + (1 : Int)) e103 (by omega) (by omega) ls (lv_sub hl [4, 5, 6, 7, 8, 0] rfl)
                      · omega
                    · refine lv_iload hx hb dL_isMendSo_148 (lv_at hl 0 rfl) ?_
                      refine lv_iload hx hb dL_isMendSo_150 (lv_at hl 1 rfl) ?_
                      refine z_icmp_le (tgt := 157) hx hb e88 e86 dL_isMendSo_152 (by decide) (fun c_104 => ?_) (fun c_104 => ?_)
                      · refine lv_iload hx hb dL_isMendSo_157 (lv_at hl 2 rfl) ?_
                        refine z_if_ge (tgt := 181) hx hb e45 dL_isMendSo_159 (by decide) (fun c_105 => ?_) (fun c_105 => ?_)
                        · refine z_iinc (k := 8) hx hb dL_isMendSo_181 hl rfl hx5 (show (Int32.ofInt 1).toInt = (1 : Int) from rfl) (by omega) (by decide) (fun z106 e106 ls hl => ?_)
                          have hl : lv_has ls 12 [(5, .int z106), (8, .int z88), (7, .int z86), (6, .int z45), (0, .ref z), (1, .int xt), (2, .int xk), (3, .int xo), (4, .int z1)] := hl
                          refine lv_goto (tgt := 49) hx hb dL_isMendSo_184 (by decide) ?_
                          exact ih49 z106 (i5 + (1 : Int)) e106 (by omega) (by omega) ls (lv_sub hl [4, 5, 6, 7, 8, 0] rfl)
                        · omega
                      · omega
            · refine lv_bipush (v := (100 : Int32)) hx hb dL_isMendSo_89 (by decide) ?_
              refine lv_iload hx hb dL_isMendSo_91 (lv_at hl 6 rfl) ?_
              refine z_isub hx hb kI_100 e1 dL_isMendSo_93 (by omega) (fun z107 e107 => ?_)
              refine lv_goto (tgt := 102) hx hb dL_isMendSo_94 (by decide) ?_
              refine lv_istore hx hb dL_isMendSo_102 hl (by decide) rfl (fun ls hl => ?_)
              have hl : lv_has ls 12 [(8, .int z107), (7, .int z86), (6, .int z45), (0, .ref z), (1, .int xt), (2, .int xk), (3, .int xo), (4, .int z1), (5, .int x5)] := hl
              refine lv_iload hx hb dL_isMendSo_104 (lv_at hl 2 rfl) ?_
              refine z_if_lt (tgt := 157) hx hb e45 dL_isMendSo_106 (by decide) (fun c_108 => ?_) (fun c_108 => ?_)
              · refine lv_iload hx hb dL_isMendSo_157 (lv_at hl 2 rfl) ?_
                refine z_if_ge (tgt := 181) hx hb e45 dL_isMendSo_159 (by decide) (fun c_109 => ?_) (fun c_109 => ?_)
                · omega
                · refine lv_iload hx hb dL_isMendSo_162 (lv_at hl 2 rfl) ?_
                  refine lv_bipush (v := (-5 : Int32)) hx hb dL_isMendSo_164 (by decide) ?_
                  refine z_icmp_ne (tgt := 179) hx hb e45 kI_m5 dL_isMendSo_166 (by decide) (fun c_110 => ?_) (fun c_110 => ?_)
                  · omega
                  · refine lv_iload hx hb dL_isMendSo_169 (lv_at hl 8 rfl) ?_
                    refine lv_iload hx hb dL_isMendSo_171 (lv_at hl 7 rfl) ?_
                    refine lv_bipush (v := (100 : Int32)) hx hb dL_isMendSo_173 (by decide) ?_
                    refine z_isub hx hb e1 kI_100 dL_isMendSo_175 (by omega) (fun z111 e111 => ?_)
                    refine z_icmp_ne (tgt := 181) hx hb hx5 e111 dL_isMendSo_176 (by decide) (fun c_112 => ?_) (fun c_112 => ?_)
                    · refine z_iinc (k := 8) hx hb dL_isMendSo_181 hl rfl hx5 (show (Int32.ofInt 1).toInt = (1 : Int) from rfl) (by omega) (by decide) (fun z113 e113 ls hl => ?_)
                      have hl : lv_has ls 12 [(5, .int z113), (8, .int z107), (7, .int z86), (6, .int z45), (0, .ref z), (1, .int xt), (2, .int xk), (3, .int xo), (4, .int z1)] := hl
                      refine lv_goto (tgt := 49) hx hb dL_isMendSo_184 (by decide) ?_
                      exact ih49 z113 (i5 + (1 : Int)) e113 (by omega) (by omega) ls (lv_sub hl [4, 5, 6, 7, 8, 0] rfl)
                    · omega
              · refine lv_iload hx hb dL_isMendSo_109 (lv_at hl 7 rfl) ?_
                refine z_if_lt (tgt := 155) hx hb e1 dL_isMendSo_111 (by decide) (fun c_114 => ?_) (fun c_114 => ?_)
                · omega
                · refine lv_aload_n hx hb dL_isMendSo_114 rfl (lv_at hl 3 rfl) ?_
                  refine lv_iload_n hx hb dL_isMendSo_115 rfl (lv_at hl 4 rfl) ?_
                  refine lv_iload_n hx hb dL_isMendSo_116 rfl (lv_at hl 5 rfl) ?_
                  refine lv_iload_n hx hb dL_isMendSo_117 rfl (lv_at hl 6 rfl) ?_
                  refine lv_iload hx hb dL_isMendSo_118 (lv_at hl 7 rfl) ?_
                  refine lv_bipush (v := (100 : Int32)) hx hb dL_isMendSo_120 (by decide) ?_
                  refine z_isub hx hb e1 kI_100 dL_isMendSo_122 (by omega) (fun z115 e115 => ?_)
                  refine z_cV (As := [.int xt, .int xk, .int xo, .int z115]) (rest := []) ⟨hx, hb, hml, hown, hts⟩ (kX4_misfit l G z σ xt t e_xt xk k e_xk xo o e_xo z115 ((bpf ()) - (100 : Int)) e115 hok) (cwV 4 hts gL_isMendSo_X4_misfit rfl rfl rfl hyX4_misfit ⟨Nat.le_of_ble_eq_true rfl, Nat.le_of_ble_eq_true rfl⟩) hK hF hF.1 rfl rfl hl.1 rfl (Nat.le_of_ble_eq_true rfl) dL_isMendSo_123 ⟨Nat.zero_le _, Nat.zero_le _⟩ (fun z116 e116 => ?_)
                  replace e116 : z116.toInt = a_misfit σ t k o ((bpf ()) - (100 : Int)) := e116
                  replace e116 : z116.toInt = mis (bpf () - (100 : Int)) := by rw [e116]; exact hmis _
                  refine lv_iload hx hb dL_isMendSo_126 (lv_at hl 2 rfl) ?_
                  refine z_icmp_gt (tgt := 155) hx hb e116 e45 dL_isMendSo_128 (by decide) (fun c_117 => ?_) (fun c_117 => ?_)
                  · omega
                  · refine lv_aload_n hx hb dL_isMendSo_131 rfl (lv_at hl 3 rfl) ?_
                    refine lv_iload_n hx hb dL_isMendSo_132 rfl (lv_at hl 4 rfl) ?_
                    refine lv_iload_n hx hb dL_isMendSo_133 rfl (lv_at hl 5 rfl) ?_
                    refine lv_iload_n hx hb dL_isMendSo_134 rfl (lv_at hl 6 rfl) ?_
                    refine lv_iload hx hb dL_isMendSo_135 (lv_at hl 7 rfl) ?_
                    refine lv_bipush (v := (100 : Int32)) hx hb dL_isMendSo_137 (by decide) ?_
                    refine z_isub hx hb e1 kI_100 dL_isMendSo_139 (by omega) (fun z118 e118 => ?_)
                    refine z_cV (As := [.int xt, .int xk, .int xo, .int z118]) (rest := []) ⟨hx, hb, hml, hown, hts⟩ (kX4_misfit l G z σ xt t e_xt xk k e_xk xo o e_xo z118 ((bpf ()) - (100 : Int)) e118 hok) (cwV 4 hts gL_isMendSo_X4_misfit rfl rfl rfl hyX4_misfit ⟨Nat.le_of_ble_eq_true rfl, Nat.le_of_ble_eq_true rfl⟩) hK hF hF.1 rfl rfl hl.1 rfl (Nat.le_of_ble_eq_true rfl) dL_isMendSo_140 ⟨Nat.zero_le _, Nat.zero_le _⟩ (fun z119 e119 => ?_)
                    replace e119 : z119.toInt = a_misfit σ t k o ((bpf ()) - (100 : Int)) := e119
                    replace e119 : z119.toInt = mis (bpf () - (100 : Int)) := by rw [e119]; exact hmis _
                    refine lv_iload hx hb dL_isMendSo_143 (lv_at hl 2 rfl) ?_
                    refine z_icmp_ne (tgt := 157) hx hb e119 e45 dL_isMendSo_145 (by decide) (fun c_120 => ?_) (fun c_120 => ?_)
                    · refine lv_iload hx hb dL_isMendSo_157 (lv_at hl 2 rfl) ?_
                      refine z_if_ge (tgt := 181) hx hb e45 dL_isMendSo_159 (by decide) (fun c_121 => ?_) (fun c_121 => ?_)
                      · refine z_iinc (k := 8) hx hb dL_isMendSo_181 hl rfl hx5 (show (Int32.ofInt 1).toInt = (1 : Int) from rfl) (by omega) (by decide) (fun z122 e122 ls hl => ?_)
                        have hl : lv_has ls 12 [(5, .int z122), (8, .int z107), (7, .int z86), (6, .int z45), (0, .ref z), (1, .int xt), (2, .int xk), (3, .int xo), (4, .int z1)] := hl
                        refine lv_goto (tgt := 49) hx hb dL_isMendSo_184 (by decide) ?_
                        exact ih49 z122 (i5 + (1 : Int)) e122 (by omega) (by omega) ls (lv_sub hl [4, 5, 6, 7, 8, 0] rfl)
                      · omega
                    · refine lv_iload hx hb dL_isMendSo_148 (lv_at hl 0 rfl) ?_
                      refine lv_iload hx hb dL_isMendSo_150 (lv_at hl 1 rfl) ?_
                      refine z_icmp_le (tgt := 157) hx hb e107 e86 dL_isMendSo_152 (by decide) (fun c_123 => ?_) (fun c_123 => ?_)
                      · refine lv_iload hx hb dL_isMendSo_157 (lv_at hl 2 rfl) ?_
                        refine z_if_ge (tgt := 181) hx hb e45 dL_isMendSo_159 (by decide) (fun c_124 => ?_) (fun c_124 => ?_)
                        · refine z_iinc (k := 8) hx hb dL_isMendSo_181 hl rfl hx5 (show (Int32.ofInt 1).toInt = (1 : Int) from rfl) (by omega) (by decide) (fun z125 e125 ls hl => ?_)
                          have hl : lv_has ls 12 [(5, .int z125), (8, .int z107), (7, .int z86), (6, .int z45), (0, .ref z), (1, .int xt), (2, .int xk), (3, .int xo), (4, .int z1)] := hl
                          refine lv_goto (tgt := 49) hx hb dL_isMendSo_184 (by decide) ?_
                          exact ih49 z125 (i5 + (1 : Int)) e125 (by omega) (by omega) ls (lv_sub hl [4, 5, 6, 7, 8, 0] rfl)
                        · omega
                      · omega
    exact cut49 (((13 - (-12 : Int)).toNat) + 1) (-12 : Int32) (-12 : Int) kI_m12 (Nat.lt_succ_self _) (by omega) ls (lv_sub hl [2, 3, 4, 5, 1, 0] rfl)
  · obtain ⟨hmn1, hmn2, hmn3⟩ := mn_no hmc (by rw [hgp]; exact c_3)
    rw [hbp ()] at hmn1
    refine lv_iload hx hb dL_isMendSo_19 (lv_at hl 0 rfl) ?_
    refine lv_bipush (v := (-4 : Int32)) hx hb dL_isMendSo_21 (by decide) ?_
    refine z_icmp_ne (tgt := 43) hx hb e1 kI_m4 dL_isMendSo_23 (by decide) (fun c_126 => ?_) (fun c_126 => ?_)
    · omega
    · refine lv_aload_n hx hb dL_isMendSo_26 rfl (lv_at hl 1 rfl) ?_
      refine lv_iload_n hx hb dL_isMendSo_27 rfl (lv_at hl 2 rfl) ?_
      refine lv_iload_n hx hb dL_isMendSo_28 rfl (lv_at hl 3 rfl) ?_
      refine lv_iload_n hx hb dL_isMendSo_29 rfl (lv_at hl 4 rfl) ?_
      refine lv_iconst (v := (0 : Int32)) hx hb dL_isMendSo_30 (by decide) ?_
      refine z_cVw (As := [.int xt, .int xk, .int xo, .int (0 : Int32)]) (rest := []) ⟨hx, hb, hml, hown, hts⟩ (kX4_mend l G z σ xt t e_xt xk k e_xk xo o e_xo (0 : Int32) (0 : Int) kI_0 hok) (cwV 4 hts gL_isMendSo_X4_mend rfl rfl rfl hyX4_mend ⟨Nat.le_of_ble_eq_true rfl, Nat.le_of_ble_eq_true rfl⟩) hK hF hF.1 rfl rfl hl.1 rfl (Nat.le_of_ble_eq_true rfl) dL_isMendSo_31 ⟨Nat.zero_le _, Nat.zero_le _⟩ hS (fun q h => by simp only [iv] at h ⊢; omega) (fun z127 H locs e127 hB hsz hq hS => ?_)
      have hF := hB
      have hF : SFP G H z (s_mend σ t k o (0 : Int)) := hF
      replace e127 : z127.toInt = a_mend σ t k o (0 : Int) := e127
      rw [hmn2] at e127; clear hmn2
      refine lv_bipush (v := (-4 : Int32)) hx hb dL_isMendSo_34 (by decide) ?_
      refine z_icmp_ne (tgt := 43) hx hb e127 kI_m4 dL_isMendSo_36 (by decide) (fun c_128 => ?_) (fun c_128 => ?_)
      · omega
      · refine lv_iconst (v := (1 : Int32)) hx hb dL_isMendSo_39 (by decide) ?_
        refine lv_goto (tgt := 44) hx hb dL_isMendSo_40 (by decide) ?_
        exact z_rbw (v := (1 : Int32)) hx hb hr hlocks rfl (show (1 : Int32).toInt = (1 : Int) from (by first | rfl | omega)) ⟨_, hF, (by rw [hmn3]; exact ⟨hfx, Int.le_refl _⟩)⟩ hS dL_isMendSo_44
