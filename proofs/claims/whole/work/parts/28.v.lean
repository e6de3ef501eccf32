abbrev rmX5_forget : Room := { frames := 2, cells := 0, slots := 0, locals := 45 }
theorem iwX5_forget_5 : ∀ w ∈ wsX50, w ∈ wsX5_forget := fun _ h => List.mem_cons_of_mem _ (List.mem_append_right _ h)
theorem flX5_forget_7 : Cond.fieldLink RX5 7 "SiltedFloatsModel" "s" "[I" ∈ wsX5_forget := by decide +kernel
theorem hyX5_forget : yX5_forget.cls = RX5 ∧ yX5_forget.cls ≠ "java/lang/invoke/MethodHandle" ∧ yX5_forget.cls ≠ "java/lang/invoke/VarHandle" ∧ (parseMethodDescriptor yX5_forget.desc).map (fun d => d.parameters.length) = some 1 := by decide +kernel
set_option maxHeartbeats 2000000 in
set_option maxRecDepth 100000 in
theorem kX5_forget (l : Launch) (G : xG) (o : Nat) (μ : MD) (x : Int32) (t : Int) (e_x : x.toInt = t) (σ : FD) (hRel : Rel σ μ) (hfd : fdOk σ) : Met l yX5_forget wsX5_forget rmX5_forget (va_Pc [.ref o, .int x] (zPre G (fun H => MO G H o μ))) (zW (fun v => v.toInt = a_forget σ t) (fun H => ∃ n9 : MD, MO G H o n9 ∧ (Rel (s_forget σ t) n9)) (iv o 5)) 0 0 (iv o 5) := by
  refine z_ofW (cc := cX5_forget) (maxL := 4) (ret := some .int) (by decide +kernel) rfl (Nat.le_of_ble_eq_true rfl) ?_
  intro p e s m below meth c hx hb hml hr hts hown hlocks hK hP ls hl
  have hM := hP
  have hown : s.vm.findClass RX5 = some m.cls := hown
  have hl : lv_has ls 4 [(0, .ref o), (1, .int x)] := hl
  have hS : va_S (iv o 5) s.heap s.heap [] := va_S.rf
  have hR := hRel.1
  have hok := hfd.1
  have hn0 := hR.1
  have hok1 := hok.1
  have hW := hR.w
  have hwo := hok.2.1
  have hkn : 0 ≤ (μ.1 2).toInt ∧ (μ.1 2).toInt ≤ 4 := by rw [hRel.2.1.1]; exact hfd.2.2.2.2.1
  refine lv_iload_n hx hb dX5_forget_0 rfl (lv_at hl 1 rfl) ?_
  refine z_cS (As := [.int x]) (rest := []) ⟨hx, hb, hml, hown, hts⟩ (kX5_isStation l G x t e_x) (va_cwS 1 hts gX5_forget_X5_isStation rfl rfl rfl hyX5_isStation ⟨Nat.le_of_ble_eq_true rfl, Nat.le_of_ble_eq_true rfl⟩) hK trivial rfl hl.1 rfl (Nat.le_of_ble_eq_true rfl) dX5_forget_1 ⟨Nat.zero_le _, Nat.zero_le _⟩ (fun z1 e1 => ?_)
  have e1 : isB z1 (0 ≤ t ∧ t < 3) := e1
  refine z_ifb_ne (tgt := 9) hx hb e1 dX5_forget_4 (by decide) (fun c_2 => ?_) (fun c_2 => ?_)
  · have ht : 0 ≤ t ∧ t < 3 := c_2
    have hgo := hok.2.2 t.toNat (by omega)
    have hs2 := hR.sum2 hok ht
    refine lv_aload_n hx hb dX5_forget_9 rfl (lv_at hl 0 rfl) ?_
    refine lv_iload_n hx hb dX5_forget_10 rfl (lv_at hl 1 rfl) ?_
    refine lv_sipush (v := (369 : Int32)) hx hb dX5_forget_11 (by decide) ?_
    refine z_cV (As := [.int x, .int (369 : Int32)]) (rest := []) ⟨hx, hb, hml, hown, hts⟩ (kX5_sum l G o μ x t e_x (369 : Int32) (369 : Int) kI_369 (by first | assumption | omega) (by first | assumption | omega) (by omega) (hR.b2 ht)) (cwV 2 hts gX5_forget_X5_sum rfl rfl rfl hyX5_sum ⟨Nat.le_of_ble_eq_true rfl, Nat.le_of_ble_eq_true rfl⟩) hK hM hM.1 rfl rfl hl.1 rfl (Nat.le_of_ble_eq_true rfl) dX5_forget_14 ⟨Nat.zero_le _, Nat.zero_le _⟩ (fun z3 e3 => ?_)
    have e3 : z3.toInt = sumZ (fun h => cR μ.2.1 t ((369 : Int) + h)) 0 ((μ.2.1 (0 : Int).toNat).toInt).toNat := e3
    have e3 : z3.toInt = cntK (σ.1.2.2 t.toNat) 2 := by rw [e3]; exact hs2
    refine lv_istore_n hx hb dX5_forget_17 rfl hl (by decide) rfl (fun ls hl => ?_)
    have hl : lv_has ls 4 [(2, .int z3), (0, .ref o), (1, .int x)] := hl
    refine lv_iload_n hx hb dX5_forget_18 rfl (lv_at hl 0 rfl) ?_
    refine z_if_ne (tgt := 25) hx hb e3 dX5_forget_19 (by decide) (fun c_4 => ?_) (fun c_4 => ?_)
    · refine lv_aload_n hx hb dX5_forget_25 rfl (lv_at hl 1 rfl) ?_
      refine z_cVv (As := []) (rest := []) ⟨hx, hb, hml, hown, hts⟩ (kX5_know l G o μ (by first | assumption | omega)) (cwV 0 hts gX5_forget_X5_know rfl rfl rfl hyX5_know ⟨Nat.le_of_ble_eq_true rfl, Nat.le_of_ble_eq_true rfl⟩) hK hM hM.1 rfl rfl hl.1 rfl (Nat.le_of_ble_eq_true rfl) dX5_forget_26 ⟨Nat.zero_le _, Nat.zero_le _⟩ hS (fun q h => by simp only [iv] at h ⊢; omega) (fun H locs hB hsz hq hS => ?_)
      have hM := hB
      have hM : MO G H o (kwS μ, μ.2.1, kwB μ, μ.2.2.2) := hM
      refine lv_iconst (v := (0 : Int32)) hx hb dX5_forget_29 (by decide) ?_
      refine lv_istore_n hx hb dX5_forget_30 rfl hl (by decide) rfl (fun ls hl => ?_)
      have hl : lv_has ls 4 [(3, .int (0 : Int32)), (2, .int z3), (0, .ref o), (1, .int x)] := hl
      have cut31 : ∀ (n31 : Nat), ∀ (x3 : Int32) (i3 : Int) (_ : x3.toInt = i3) (d_hM : MD), (120 - i3).toNat < n31 → (0 ≤ i3 ∧ i3 ≤ 120) → ((sameBut μ.2.1 d_hM.2.1 t ∧ Fg (fun w => cR μ.2.1 t w) (fun w => cR d_hM.2.1 t w) i3) ∧ d_hM.1 = kwS μ ∧ d_hM.2.2 = (kwB μ, μ.2.2.2)) → ∀ (H : Heap) (locs : List Loc), MO G H o d_hM → va_S (iv o 5) s.heap H locs → ∀ ls : Array Slot, lv_has ls 4 [(0, .ref o), (1, .int x), (2, .int z3), (3, .int x3)] → W p l e rmX5_forget s m ([.ref o, .int x] : List Value).toArray below meth c H locs 0 0 (MQ below (zW (fun v => v.toInt = a_forget σ t) (fun H => ∃ n9 : MD, MO G H o n9 ∧ (Rel (s_forget σ t) n9)) (iv o 5)) ([.ref o, .int x] : List Value).toArray s 0 0 (iv o 5)) (F0 m 31 ls []) := by
        intro n31
        induction n31 with
        | zero =>
          intro x3 i3 hx3 d_hM hmu31 hi31_0 hi31_1 H locs hM hS ls hl
          exact absurd hmu31 (Nat.not_lt_zero _)
        | succ n31 ih31 =>
          intro x3 i3 hx3 d_hM hmu31 hi31_0 hi31_1 H locs hM hS ls hl
          refine lv_iload_n hx hb dX5_forget_31 rfl (lv_at hl 3 rfl) ?_
          refine lv_bipush (v := (120 : Int32)) hx hb dX5_forget_32 (by decide) ?_
          refine z_icmp_ge (tgt := 73) hx hb hx3 kI_120 dX5_forget_34 (by decide) (fun c_6 => ?_) (fun c_6 => ?_)
          · refine lv_iload_n hx hb dX5_forget_73 rfl (lv_at hl 2 rfl) ?_
            exact z_riw (v := z3) hx hb hr hlocks (show z3.toInt = a_forget σ t from (by unfold a_forget; (repeat' split) <;> first | rfl | omega | contradiction | assumption)) ⟨_, hM, (by unfold s_forget; rw [if_pos (by omega)]; exact hRel.act hfd (hR.forget hok ht (by rw [show (120 : Int) = i3 by omega]; exact hi31_1.1)) hi31_1.2.1 hi31_1.2.2)⟩ hS dX5_forget_74
          · refine lv_aload_n hx hb dX5_forget_37 rfl (lv_at hl 0 rfl) ?_
            refine z_get hx hb hts iwX5_forget_5 hown hK hM.1 rfl 0 (by decide) flX5_forget_7 rfl (v := .ref (o + 1)) rfl dX5_forget_38 ?_
            refine lv_iload_n hx hb dX5_forget_41 rfl (lv_at hl 1 rfl) ?_
            refine lv_sipush (v := (369 : Int32)) hx hb dX5_forget_42 (by decide) ?_
            refine lv_iload_n hx hb dX5_forget_45 rfl (lv_at hl 3 rfl) ?_
            refine z_iadd hx hb kI_369 hx3 dX5_forget_46 (by omega) (fun z7 e7 => ?_)
            refine z_cS (As := [.int x, .int z7]) (rest := [.ref (o + 1)]) ⟨hx, hb, hml, hown, hts⟩ (kX5_of l G x t e_x z7 ((369 : Int) + i3) e7 (by first | assumption | omega)) (va_cwS 2 hts gX5_forget_X5_of rfl rfl rfl hyX5_of ⟨Nat.le_of_ble_eq_true rfl, Nat.le_of_ble_eq_true rfl⟩) hK trivial rfl hl.1 rfl (Nat.le_of_ble_eq_true rfl) dX5_forget_47 ⟨Nat.zero_le _, Nat.zero_le _⟩ (fun z8 e8 => ?_)
            have e8 : z8.toInt = 10 + 731 * t + ((369 : Int) + i3) := e8
            refine lv_iconst (v := (0 : Int32)) hx hb dX5_forget_50 (by decide) ?_
            refine z_iastMs hx hb hK hM hS (by simp only [iv]; omega) e8 (by omega) dX5_forget_51 (fun H locs hM hsz hq hS => ?_)
            have hM : MO G H o (d_hM.1, upd d_hM.2.1 (10 + 731 * t + ((369 : Int) + i3)).toNat (0 : Int32), d_hM.2.2.1, d_hM.2.2.2.1, d_hM.2.2.2.2) := hM
            refine lv_aload_n hx hb dX5_forget_52 rfl (lv_at hl 0 rfl) ?_
            refine z_get hx hb hts iwX5_forget_5 hown hK hM.1 rfl 0 (by decide) flX5_forget_7 rfl (v := .ref (o + 1)) rfl dX5_forget_53 ?_
            refine lv_iload_n hx hb dX5_forget_56 rfl (lv_at hl 1 rfl) ?_
            refine lv_sipush (v := (249 : Int32)) hx hb dX5_forget_57 (by decide) ?_
            refine lv_iload_n hx hb dX5_forget_60 rfl (lv_at hl 3 rfl) ?_
            refine z_iadd hx hb kI_249 hx3 dX5_forget_61 (by omega) (fun z9 e9 => ?_)
            refine z_cS (As := [.int x, .int z9]) (rest := [.ref (o + 1)]) ⟨hx, hb, hml, hown, hts⟩ (kX5_of l G x t e_x z9 ((249 : Int) + i3) e9 (by first | assumption | omega)) (va_cwS 2 hts gX5_forget_X5_of rfl rfl rfl hyX5_of ⟨Nat.le_of_ble_eq_true rfl, Nat.le_of_ble_eq_true rfl⟩) hK trivial rfl hl.1 rfl (Nat.le_of_ble_eq_true rfl) dX5_forget_62 ⟨Nat.zero_le _, Nat.zero_le _⟩ (fun z10 e10 => ?_)
            have e10 : z10.toInt = 10 + 731 * t + ((249 : Int) + i3) := e10
            refine lv_iconst (v := (0 : Int32)) hx hb dX5_forget_65 (by decide) ?_
            refine z_iastMs hx hb hK hM hS (by simp only [iv]; omega) e10 (by omega) dX5_forget_66 (fun H locs hM hsz hq hS => ?_)
            have hM : MO G H o (d_hM.1, upd (upd d_hM.2.1 (10 + 731 * t + ((369 : Int) + i3)).toNat (0 : Int32)) (10 + 731 * t + ((249 : Int) + i3)).toNat (0 : Int32), d_hM.2.2.1, d_hM.2.2.2.1, d_hM.2.2.2.2) := hM
            refine z_iinc (k := 3) hx hb dX5_forget_67 hl rfl hx3 (show (Int32.ofInt 1).toInt = (1 : Int) from rfl) (by omega) (by decide) (fun z11 e11 ls hl => ?_)
            have hl : lv_has ls 4 [(3, .int z11), (0, .ref o), (1, .int x), (2, .int z3)] := hl
            refine lv_goto (tgt := 31) hx hb dX5_forget_70 (by decide) ?_
            exact ih31 z11 (i3 + (1 : Int)) e11 (d_hM.1, upd (upd d_hM.2.1 (10 + 731 * t + ((369 : Int) + i3)).toNat (0 : Int32)) (10 + 731 * t + ((249 : Int) + i3)).toNat (0 : Int32), d_hM.2.2.1, d_hM.2.2.2.1, d_hM.2.2.2.2) (by omega) (by omega) ⟨Fg.step hi31_1.1 ht (by omega), hi31_1.2⟩ _ _ hM hS ls (lv_sub hl [1, 2, 3, 0] rfl)
      exact cut31 (((120 - (0 : Int)).toNat) + 1) (0 : Int32) (0 : Int) kI_0 (kwS μ, μ.2.1, kwB μ, μ.2.2.2) (Nat.lt_succ_self _) (by omega) ⟨Fg.zero, rfl, rfl⟩ _ _ hM hS ls (lv_sub hl [2, 3, 1, 0] rfl)
    · refine lv_bipush (v := (-5 : Int32)) hx hb dX5_forget_22 (by decide) ?_
      exact z_riw (v := (-5 : Int32)) hx hb hr hlocks (show (-5 : Int32).toInt = a_forget σ t from (by unfold a_forget; (repeat' split) <;> first | rfl | omega | contradiction | assumption)) ⟨_, hM, (by unfold s_forget; rw [if_neg (by omega)]; exact hRel)⟩ hS dX5_forget_24
  · refine lv_iconst (v := (-1 : Int32)) hx hb dX5_forget_7 (by decide) ?_
    exact z_riw (v := (-1 : Int32)) hx hb hr hlocks (show (-1 : Int32).toInt = a_forget σ t from (by unfold a_forget; (repeat' split) <;> first | rfl | omega | contradiction | assumption)) ⟨_, hM, (by unfold s_forget; rw [if_neg (by omega)]; exact hRel)⟩ hS dX5_forget_8
